/-! roots and proxies -/
theorem zK_n {h : zH} (hw : zWk h) {i j : Nat} {x : Int32} (hi : i < 60) (h3 : j = 3 → zBo x) (h5 : j = 5 → zBo x) : zWk (zupI h (30 + 5 * i) j x) := zK_I hw (zTok_t (zS_thing i hi) h3 h5)
def zclR : Nat → Nat → zH → zH
  | 0, _, h => h
  | m + 1, i, h => zclR m (i + 1) (zupI h (30 + 5 * i) 5 (Int32.ofInt (Int.ofNat 0)))
theorem zK_clR : ∀ (m i : Nat) (h : zH), i + m = 60 → zWk h → zWk (zclR m i h)
  | 0, _, _, _, hw => hw
  | m + 1, i, _, e, hw => zK_clR m (i + 1) _ (by omega) (zK_n hw (by omega) (fun e => by cases e) (fun _ => zBo0))
theorem zPn_clR : ∀ (m i : Nat) (h : zH), zPn h → zPn (zclR m i h)
  | 0, _, _, hp => hp
  | m + 1, i, h, hp => by
    refine zPn_clR m (i + 1) _ ?_
    obtain ⟨p, h1, h2, h3⟩ := hp
    exact ⟨p, h1, (zupI_ne (fun q => by omega)).trans h2, h3⟩
def zrG (b : Int32) : Nat → Nat → zH → zH
  | 0, _, h => h
  | m + 1, i, h => zrG b m (i + 1) (zrch h (6 + i) b)
theorem zK_rG {b : Int32} : ∀ (m i : Nat) (h : zH), i + m = 24 → zWk h → zWk (zrG b m i h)
  | 0, _, _, _, hw => hw
  | m + 1, i, _, e, hw => zK_rG m (i + 1) _ (by omega) (zK_rch hw (zS_val24 i (by omega)))
theorem zPn_rG {b : Int32} : ∀ (m i : Nat) (h : zH), zPn h → zPn (zrG b m i h)
  | 0, _, _, hp => hp
  | m + 1, i, _, hp => zPn_rG m (i + 1) _ (zPn_rch hp)
def zrM1 (h : zH) (b : Int32) (i : Nat) : zH := if b = 0 ∧ 0 ≤ h.1 (30 + 5 * i) 0 ∧ ¬ h.1 (30 + 5 * i) 1 = 0 ∧ 0 < h.1 (30 + 5 * i) 4 then zrchT h (30 + 5 * i) else h
theorem zK_rM1 {h : zH} (hw : zWk h) {b : Int32} {i : Nat} (hi : i < 60) : zWk (zrM1 h b i) := by
  unfold zrM1
  split
  · exact zK_rchT hw ⟨i, hi, rfl⟩
  · exact hw
theorem zPn_rM1 {h : zH} (hp : zPn h) {b : Int32} {i : Nat} : zPn (zrM1 h b i) := by
  unfold zrM1
  split
  · exact zPn_rchT hp
  · exact hp
def zrM (b : Int32) : Nat → Nat → zH → zH
  | 0, _, h => h
  | m + 1, i, h => zrM b m (i + 1) (zrM1 h b i)
theorem zK_rM {b : Int32} : ∀ (m i : Nat) (h : zH), i + m = 60 → zWk h → zWk (zrM b m i h)
  | 0, _, _, _, hw => hw
  | m + 1, i, _, e, hw => zK_rM m (i + 1) _ (by omega) (zK_rM1 hw (by omega))
theorem zPn_rM {b : Int32} : ∀ (m i : Nat) (h : zH), zPn h → zPn (zrM b m i h)
  | 0, _, _, hp => hp
  | m + 1, i, _, hp => zPn_rM m (i + 1) _ (zPn_rM1 hp)
def zrR (h : zH) (b : Int32) : zH := zrM b 60 0 (zrG b 24 0 (zclR 60 0 (zupI h 2 3 (Int32.ofInt (Int.ofNat 0)))))
theorem zK_h {h : zH} (hw : zWk h) {j : Nat} {x : Int32} : zWk (zupI h 2 j x) := zK_I hw (zTok_o zS_2 (by decide) (by decide) (by decide) (by decide))
theorem zPn_0 {h : zH} : zPn (zupI h 2 3 (Int32.ofInt (Int.ofNat 0))) := ⟨0, by omega, zupI_at, fun j hj => absurd hj (Nat.not_lt_zero j)⟩
theorem zK_rR {h : zH} (hw : zWk h) {b : Int32} : zWk (zrR h b) := zK_rM 60 0 _ rfl (zK_rG 24 0 _ rfl (zK_clR 60 0 _ rfl (zK_h hw)))
theorem zPn_rR {h : zH} {b : Int32} : zPn (zrR h b) := zPn_rM 60 0 _ (zPn_rG 24 0 _ (zPn_clR 60 0 _ zPn_0))
def znF (r : Nat) : Nat → Nat → zH → zH
  | 0, _, h => h
  | m + 1, i, h => znF r m (i + 1) (znoteP h (h.1 (30 + 5 * r) 1) (32 + 5 * r + i))
theorem zK_nF {r : Nat} (hr : r < 60) : ∀ (m i : Nat) (h : zH), i + m = 3 → zWk h → zWk (znF r m i h)
  | 0, _, _, _, hw => hw
  | m + 1, i, _, e, hw => zK_nF hr m (i + 1) _ (by omega) (zK_noteP hw (zS_tval r hr i (by omega)))
def znC : Nat → Nat → zH → zH
  | 0, _, h => h
  | m + 1, i, h => znC m (i + 1) (zupI h (30 + 5 * i) 3 (Int32.ofInt (Int.ofNat 0)))
theorem zK_nC : ∀ (m i : Nat) (h : zH), i + m = 60 → zWk h → zWk (znC m i h)
  | 0, _, _, _, hw => hw
  | m + 1, i, _, e, hw => zK_nC m (i + 1) _ (by omega) (zK_n hw (by omega) (fun _ => zBo0) (fun e => by cases e))
def znG : Nat → Nat → zH → zH
  | 0, _, h => h
  | m + 1, i, h => znG m (i + 1) (znoteP h (nI i / Int32.ofInt (Int.ofNat 8)) (6 + i))
theorem zK_nG : ∀ (m i : Nat) (h : zH), i + m = 24 → zWk h → zWk (znG m i h)
  | 0, _, _, _, hw => hw
  | m + 1, i, _, e, hw => zK_nG m (i + 1) _ (by omega) (zK_noteP hw (zS_val24 i (by omega)))
def znM1 (h : zH) (i : Nat) : zH := if h.1 (30 + 5 * i) 0 < 0 then h else znF i 3 0 h
theorem zK_nM1 {h : zH} (hw : zWk h) {i : Nat} (hi : i < 60) : zWk (znM1 h i) := by
  unfold znM1
  split
  · exact hw
  · exact zK_nF hi 3 0 _ rfl hw
def znM : Nat → Nat → zH → zH
  | 0, _, h => h
  | m + 1, i, h => znM m (i + 1) (znM1 h i)
theorem zK_nM : ∀ (m i : Nat) (h : zH), i + m = 60 → zWk h → zWk (znM m i h)
  | 0, _, _, _, hw => hw
  | m + 1, i, _, e, hw => zK_nM m (i + 1) _ (by omega) (zK_nM1 hw (by omega))
def zrenew (h : zH) : zH := znM 60 0 (znG 24 0 (znC 60 0 h))
theorem zK_renew {h : zH} (hw : zWk h) : zWk (zrenew h) := zK_nM 60 0 _ rfl (zK_nG 24 0 _ rfl (zK_nC 60 0 _ rfl hw))
set_option maxHeartbeats 4000000 in
set_option maxRecDepth 20000 in
theorem l_clR {ω : zO} (C : zX ω 26) {b : Int32} : ∀ (m i : Nat) (h : zH), i + m = 60 → zWk h → ZG ω 26 40 [(1, zi b), (0, zr (some 2))] [] (zclR m i h) 0 0 → ZG ω 26 16 [(4, zi (nI i)), (3, zi (nI 60)), (2, zr (some 4)), (1, zi b), (0, zr (some 2))] [] h 0 0 := by
  intro m
  induction m with
  | zero =>
    intro i h hi hI kk
    obtain rfl : i = 60 := by omega
    refine z_iload C rfl rfl ?_
    refine z_iloadn C rfl rfl ?_
    refine z_icmp C rfl (fun hc => ?_) (fun hc => absurd (Int32.le_refl _) hc)
    exact z_ll [(1, zi b), (0, zr (some 2))] ⟨rfl, rfl, trivial⟩ kk
  | succ m ih =>
    intro i h hi hI kk
    have hiN : i < 60 := by omega
    refine z_iload C rfl rfl ?_
    refine z_iloadn C rfl rfl ?_
    refine z_icmp C rfl (fun hc => absurd hc (nI_ge hiN (by decide))) (fun hc => ?_)
    refine z_aloadn C rfl rfl ?_
    refine z_iload C rfl rfl ?_
    refine z_aalds C rfl zS_4 (by decide) (by decide) (zin hiN (by decide)) (by rw [zclamp hiN (by decide)]; exact zroomR hI.1.1 hiN) ?_
    refine z_astore C rfl ?_
    refine z_aload C rfl rfl ?_
    refine z_iconst C rfl ?_
    refine z_puti C rfl (zS_thing i hiN) rfl (by first | exact ⟨_, rfl, by decide, by decide⟩ | exact ⟨_, rfl, Or.inl rfl⟩ | exact ⟨_, rfl, Or.inr rfl⟩ | assumption) ?_
    refine z_iinc C rfl rfl ?_
    refine z_goto C rfl ?_
    exact z_ll [(4, zi (nI (i + 1))), (3, zi (nI 60)), (2, zr (some 4)), (1, zi b), (0, zr (some 2))] ⟨znx i, rfl, rfl, rfl, rfl, trivial⟩ (ih (i + 1) _ (by omega) (zK_n hI hiN (fun e => by cases e) (fun _ => zBo0)) kk)
set_option maxHeartbeats 4000000 in
set_option maxRecDepth 20000 in
theorem l_rG {ω : zO} (C : zX ω 26) {b : Int32} : ∀ (m i : Nat) (h : zH), i + m = 24 → zWk h ∧ zPn h → ZG ω 26 76 [(1, zi b), (0, zr (some 2))] [] (zrG b m i h) 0 0 → ZG ω 26 51 [(4, zi (nI i)), (3, zi (nI 24)), (2, zr (some 3)), (1, zi b), (0, zr (some 2))] [] h 0 0 := by
  intro m
  induction m with
  | zero =>
    intro i h hi hI kk
    obtain rfl : i = 24 := by omega
    refine z_iload C rfl rfl ?_
    refine z_iloadn C rfl rfl ?_
    refine z_icmp C rfl (fun hc => ?_) (fun hc => absurd (Int32.le_refl _) hc)
    exact z_ll [(1, zi b), (0, zr (some 2))] ⟨rfl, rfl, trivial⟩ kk
  | succ m ih =>
    intro i h hi hI kk
    have hiN : i < 24 := by omega
    refine z_iload C rfl rfl ?_
    refine z_iloadn C rfl rfl ?_
    refine z_icmp C rfl (fun hc => absurd hc (nI_ge hiN (by decide))) (fun hc => ?_)
    refine z_aloadn C rfl rfl ?_
    refine z_iload C rfl rfl ?_
    refine z_aalds C rfl zS_3 (by decide) (by decide) (zin hiN (by decide)) (by rw [zclamp hiN (by decide)]; exact hI.1.1.1.2.2.2.2.1 i hiN) ?_
    refine z_astore C rfl ?_
    refine z_aloadn C rfl rfl ?_
    refine z_aload C rfl rfl ?_
    refine z_iloadn C rfl rfl ?_
    refine z_callv C rfl ⟨by decide, by decide⟩ zS_2 (c_rch (zKg_of C) (zS_val24 i hiN) _ hI.1 hI.2) rfl rfl (Nat.le_of_ble_eq_true rfl) ⟨Nat.le_of_ble_eq_true rfl, Nat.le_of_ble_eq_true rfl⟩ ?_
    refine z_iinc C rfl rfl ?_
    refine z_goto C rfl ?_
    exact z_ll [(4, zi (nI (i + 1))), (3, zi (nI 24)), (2, zr (some 3)), (1, zi b), (0, zr (some 2))] ⟨znx i, rfl, rfl, rfl, rfl, trivial⟩ (ih (i + 1) _ (by omega) (⟨zK_rch hI.1 (zS_val24 i hiN), zPn_rch hI.2⟩) kk)
set_option maxHeartbeats 4000000 in
set_option maxRecDepth 20000 in
theorem l_rM {ω : zO} (C : zX ω 26) {b : Int32} : ∀ (m i : Nat) (h : zH), i + m = 60 → zWk h ∧ zPn h → ZG ω 26 151 [] [] (zrM b m i h) 0 0 → ZG ω 26 87 [(4, zi (nI i)), (3, zi (nI 60)), (2, zr (some 4)), (1, zi b), (0, zr (some 2))] [] h 0 0 := by
  intro m
  induction m with
  | zero =>
    intro i h hi hI kk
    obtain rfl : i = 60 := by omega
    refine z_iload C rfl rfl ?_
    refine z_iloadn C rfl rfl ?_
    refine z_icmp C rfl (fun hc => ?_) (fun hc => absurd (Int32.le_refl _) hc)
    exact z_ll [] trivial kk
  | succ m ih =>
    intro i h hi hI kk
    have hiN : i < 60 := by omega
    refine z_iload C rfl rfl ?_
    refine z_iloadn C rfl rfl ?_
    refine z_icmp C rfl (fun hc => absurd hc (nI_ge hiN (by decide))) (fun hc => ?_)
    refine z_aloadn C rfl rfl ?_
    refine z_iload C rfl rfl ?_
    refine z_aalds C rfl zS_4 (by decide) (by decide) (zin hiN (by decide)) (by rw [zclamp hiN (by decide)]; exact zroomR hI.1.1.1 hiN) ?_
    refine z_astore C rfl ?_
    refine z_aload C rfl rfl ?_
    refine z_geti C rfl (zS_thing i hiN) rfl ?_
    refine z_if C rfl (fun hc1 => ?_) (fun hc1 => ?_)
    · skip
      skip
      refine z_iconst C rfl ?_
      refine z_istore C rfl ?_
      refine z_iloadn C rfl rfl ?_
      refine z_if C rfl (fun hc2 => ?_) (fun hc2 => ?_)
      · skip
        skip
        refine z_iinc C rfl rfl ?_
        refine z_goto C rfl ?_
        refine z_ll [(4, zi (nI (i + 1))), (3, zi (nI 60)), (2, zr (some 4)), (1, zi b), (0, zr (some 2))] ⟨znx i, rfl, rfl, rfl, rfl, trivial⟩ ?_
        first
          | (have e : zrM1 h b i = h := (by clear kk ih; unfold zrM1; simp_all [xCmp, zle0, zgt0, zlt1]); have q := ih (i + 1) (zrM1 h b i) (by omega) (⟨zK_rM1 hI.1 hiN, zPn_rM1 hI.2⟩) kk; rw [e] at q; exact q)
          | (have e : zrM1 h b i = zrchT h (30 + 5 * i) := (by clear kk ih; unfold zrM1; simp_all [xCmp, zle0, zgt0, zlt1]); have q := ih (i + 1) (zrM1 h b i) (by omega) (⟨zK_rM1 hI.1 hiN, zPn_rM1 hI.2⟩) kk; rw [e] at q; exact q)
      · skip
        skip
        refine z_iload C rfl rfl ?_
        refine z_if C rfl (fun hc3 => ?_) (fun hc3 => ?_)
        · skip
          skip
          refine z_iinc C rfl rfl ?_
          refine z_goto C rfl ?_
          refine z_ll [(4, zi (nI (i + 1))), (3, zi (nI 60)), (2, zr (some 4)), (1, zi b), (0, zr (some 2))] ⟨znx i, rfl, rfl, rfl, rfl, trivial⟩ ?_
          first
            | (have e : zrM1 h b i = h := (by clear kk ih; unfold zrM1; simp_all [xCmp, zle0, zgt0, zlt1]); have q := ih (i + 1) (zrM1 h b i) (by omega) (⟨zK_rM1 hI.1 hiN, zPn_rM1 hI.2⟩) kk; rw [e] at q; exact q)
            | (have e : zrM1 h b i = zrchT h (30 + 5 * i) := (by clear kk ih; unfold zrM1; simp_all [xCmp, zle0, zgt0, zlt1]); have q := ih (i + 1) (zrM1 h b i) (by omega) (⟨zK_rM1 hI.1 hiN, zPn_rM1 hI.2⟩) kk; rw [e] at q; exact q)
        · skip
          skip
          refine z_aloadn C rfl rfl ?_
          refine z_aload C rfl rfl ?_
          refine z_callv C rfl ⟨by decide, by decide⟩ zS_2 (c_rchT (zKg_of C) ⟨i, hiN, rfl⟩ _ hI.1 hI.2) rfl rfl (Nat.le_of_ble_eq_true rfl) ⟨Nat.le_of_ble_eq_true rfl, Nat.le_of_ble_eq_true rfl⟩ ?_
          refine z_iinc C rfl rfl ?_
          refine z_goto C rfl ?_
          refine z_ll [(4, zi (nI (i + 1))), (3, zi (nI 60)), (2, zr (some 4)), (1, zi b), (0, zr (some 2))] ⟨znx i, rfl, rfl, rfl, rfl, trivial⟩ ?_
          first
            | (have e : zrM1 h b i = h := (by clear kk ih; unfold zrM1; simp_all [xCmp, zle0, zgt0, zlt1]); have q := ih (i + 1) (zrM1 h b i) (by omega) (⟨zK_rM1 hI.1 hiN, zPn_rM1 hI.2⟩) kk; rw [e] at q; exact q)
            | (have e : zrM1 h b i = zrchT h (30 + 5 * i) := (by clear kk ih; unfold zrM1; simp_all [xCmp, zle0, zgt0, zlt1]); have q := ih (i + 1) (zrM1 h b i) (by omega) (⟨zK_rM1 hI.1 hiN, zPn_rM1 hI.2⟩) kk; rw [e] at q; exact q)
    · skip
      skip
      refine z_aload C rfl rfl ?_
      refine z_geti C rfl (zS_thing i hiN) rfl ?_
      refine z_if C rfl (fun hc4 => ?_) (fun hc4 => ?_)
      · skip
        skip
        refine z_iconst C rfl ?_
        refine z_istore C rfl ?_
        refine z_iloadn C rfl rfl ?_
        refine z_if C rfl (fun hc5 => ?_) (fun hc5 => ?_)
        · skip
          skip
          refine z_iinc C rfl rfl ?_
          refine z_goto C rfl ?_
          refine z_ll [(4, zi (nI (i + 1))), (3, zi (nI 60)), (2, zr (some 4)), (1, zi b), (0, zr (some 2))] ⟨znx i, rfl, rfl, rfl, rfl, trivial⟩ ?_
          first
            | (have e : zrM1 h b i = h := (by clear kk ih; unfold zrM1; simp_all [xCmp, zle0, zgt0, zlt1]); have q := ih (i + 1) (zrM1 h b i) (by omega) (⟨zK_rM1 hI.1 hiN, zPn_rM1 hI.2⟩) kk; rw [e] at q; exact q)
            | (have e : zrM1 h b i = zrchT h (30 + 5 * i) := (by clear kk ih; unfold zrM1; simp_all [xCmp, zle0, zgt0, zlt1]); have q := ih (i + 1) (zrM1 h b i) (by omega) (⟨zK_rM1 hI.1 hiN, zPn_rM1 hI.2⟩) kk; rw [e] at q; exact q)
        · skip
          skip
          refine z_iload C rfl rfl ?_
          refine z_if C rfl (fun hc6 => ?_) (fun hc6 => ?_)
          · skip
            skip
            refine z_iinc C rfl rfl ?_
            refine z_goto C rfl ?_
            refine z_ll [(4, zi (nI (i + 1))), (3, zi (nI 60)), (2, zr (some 4)), (1, zi b), (0, zr (some 2))] ⟨znx i, rfl, rfl, rfl, rfl, trivial⟩ ?_
            first
              | (have e : zrM1 h b i = h := (by clear kk ih; unfold zrM1; simp_all [xCmp, zle0, zgt0, zlt1]); have q := ih (i + 1) (zrM1 h b i) (by omega) (⟨zK_rM1 hI.1 hiN, zPn_rM1 hI.2⟩) kk; rw [e] at q; exact q)
              | (have e : zrM1 h b i = zrchT h (30 + 5 * i) := (by clear kk ih; unfold zrM1; simp_all [xCmp, zle0, zgt0, zlt1]); have q := ih (i + 1) (zrM1 h b i) (by omega) (⟨zK_rM1 hI.1 hiN, zPn_rM1 hI.2⟩) kk; rw [e] at q; exact q)
          · skip
            skip
            refine z_aloadn C rfl rfl ?_
            refine z_aload C rfl rfl ?_
            refine z_callv C rfl ⟨by decide, by decide⟩ zS_2 (c_rchT (zKg_of C) ⟨i, hiN, rfl⟩ _ hI.1 hI.2) rfl rfl (Nat.le_of_ble_eq_true rfl) ⟨Nat.le_of_ble_eq_true rfl, Nat.le_of_ble_eq_true rfl⟩ ?_
            refine z_iinc C rfl rfl ?_
            refine z_goto C rfl ?_
            refine z_ll [(4, zi (nI (i + 1))), (3, zi (nI 60)), (2, zr (some 4)), (1, zi b), (0, zr (some 2))] ⟨znx i, rfl, rfl, rfl, rfl, trivial⟩ ?_
            first
              | (have e : zrM1 h b i = h := (by clear kk ih; unfold zrM1; simp_all [xCmp, zle0, zgt0, zlt1]); have q := ih (i + 1) (zrM1 h b i) (by omega) (⟨zK_rM1 hI.1 hiN, zPn_rM1 hI.2⟩) kk; rw [e] at q; exact q)
              | (have e : zrM1 h b i = zrchT h (30 + 5 * i) := (by clear kk ih; unfold zrM1; simp_all [xCmp, zle0, zgt0, zlt1]); have q := ih (i + 1) (zrM1 h b i) (by omega) (⟨zK_rM1 hI.1 hiN, zPn_rM1 hI.2⟩) kk; rw [e] at q; exact q)
      · skip
        skip
        refine z_aload C rfl rfl ?_
        refine z_geti C rfl (zS_thing i hiN) rfl ?_
        refine z_if C rfl (fun hc7 => ?_) (fun hc7 => ?_)
        · skip
          skip
          refine z_iconst C rfl ?_
          refine z_istore C rfl ?_
          refine z_iloadn C rfl rfl ?_
          refine z_if C rfl (fun hc8 => ?_) (fun hc8 => ?_)
          · skip
            skip
            refine z_iinc C rfl rfl ?_
            refine z_goto C rfl ?_
            refine z_ll [(4, zi (nI (i + 1))), (3, zi (nI 60)), (2, zr (some 4)), (1, zi b), (0, zr (some 2))] ⟨znx i, rfl, rfl, rfl, rfl, trivial⟩ ?_
            first
              | (have e : zrM1 h b i = h := (by clear kk ih; unfold zrM1; simp_all [xCmp, zle0, zgt0, zlt1]); have q := ih (i + 1) (zrM1 h b i) (by omega) (⟨zK_rM1 hI.1 hiN, zPn_rM1 hI.2⟩) kk; rw [e] at q; exact q)
              | (have e : zrM1 h b i = zrchT h (30 + 5 * i) := (by clear kk ih; unfold zrM1; simp_all [xCmp, zle0, zgt0, zlt1]); have q := ih (i + 1) (zrM1 h b i) (by omega) (⟨zK_rM1 hI.1 hiN, zPn_rM1 hI.2⟩) kk; rw [e] at q; exact q)
          · skip
            skip
            refine z_iload C rfl rfl ?_
            refine z_if C rfl (fun hc9 => ?_) (fun hc9 => ?_)
            · skip
              skip
              refine z_iinc C rfl rfl ?_
              refine z_goto C rfl ?_
              refine z_ll [(4, zi (nI (i + 1))), (3, zi (nI 60)), (2, zr (some 4)), (1, zi b), (0, zr (some 2))] ⟨znx i, rfl, rfl, rfl, rfl, trivial⟩ ?_
              first
                | (have e : zrM1 h b i = h := (by clear kk ih; unfold zrM1; simp_all [xCmp, zle0, zgt0, zlt1]); have q := ih (i + 1) (zrM1 h b i) (by omega) (⟨zK_rM1 hI.1 hiN, zPn_rM1 hI.2⟩) kk; rw [e] at q; exact q)
                | (have e : zrM1 h b i = zrchT h (30 + 5 * i) := (by clear kk ih; unfold zrM1; simp_all [xCmp, zle0, zgt0, zlt1]); have q := ih (i + 1) (zrM1 h b i) (by omega) (⟨zK_rM1 hI.1 hiN, zPn_rM1 hI.2⟩) kk; rw [e] at q; exact q)
            · skip
              skip
              refine z_aloadn C rfl rfl ?_
              refine z_aload C rfl rfl ?_
              refine z_callv C rfl ⟨by decide, by decide⟩ zS_2 (c_rchT (zKg_of C) ⟨i, hiN, rfl⟩ _ hI.1 hI.2) rfl rfl (Nat.le_of_ble_eq_true rfl) ⟨Nat.le_of_ble_eq_true rfl, Nat.le_of_ble_eq_true rfl⟩ ?_
              refine z_iinc C rfl rfl ?_
              refine z_goto C rfl ?_
              refine z_ll [(4, zi (nI (i + 1))), (3, zi (nI 60)), (2, zr (some 4)), (1, zi b), (0, zr (some 2))] ⟨znx i, rfl, rfl, rfl, rfl, trivial⟩ ?_
              first
                | (have e : zrM1 h b i = h := (by clear kk ih; unfold zrM1; simp_all [xCmp, zle0, zgt0, zlt1]); have q := ih (i + 1) (zrM1 h b i) (by omega) (⟨zK_rM1 hI.1 hiN, zPn_rM1 hI.2⟩) kk; rw [e] at q; exact q)
                | (have e : zrM1 h b i = zrchT h (30 + 5 * i) := (by clear kk ih; unfold zrM1; simp_all [xCmp, zle0, zgt0, zlt1]); have q := ih (i + 1) (zrM1 h b i) (by omega) (⟨zK_rM1 hI.1 hiN, zPn_rM1 hI.2⟩) kk; rw [e] at q; exact q)
        · skip
          skip
          refine z_iconst C rfl ?_
          refine z_goto C rfl ?_
          refine z_istore C rfl ?_
          refine z_iloadn C rfl rfl ?_
          refine z_if C rfl (fun hc10 => ?_) (fun hc10 => ?_)
          · skip
            skip
            refine z_iinc C rfl rfl ?_
            refine z_goto C rfl ?_
            refine z_ll [(4, zi (nI (i + 1))), (3, zi (nI 60)), (2, zr (some 4)), (1, zi b), (0, zr (some 2))] ⟨znx i, rfl, rfl, rfl, rfl, trivial⟩ ?_
            first
              | (have e : zrM1 h b i = h := (by clear kk ih; unfold zrM1; simp_all [xCmp, zle0, zgt0, zlt1]); have q := ih (i + 1) (zrM1 h b i) (by omega) (⟨zK_rM1 hI.1 hiN, zPn_rM1 hI.2⟩) kk; rw [e] at q; exact q)
              | (have e : zrM1 h b i = zrchT h (30 + 5 * i) := (by clear kk ih; unfold zrM1; simp_all [xCmp, zle0, zgt0, zlt1]); have q := ih (i + 1) (zrM1 h b i) (by omega) (⟨zK_rM1 hI.1 hiN, zPn_rM1 hI.2⟩) kk; rw [e] at q; exact q)
          · skip
            skip
            refine z_iload C rfl rfl ?_
            refine z_if C rfl (fun hc11 => ?_) (fun hc11 => ?_)
            · skip
              skip
              refine z_iinc C rfl rfl ?_
              refine z_goto C rfl ?_
              refine z_ll [(4, zi (nI (i + 1))), (3, zi (nI 60)), (2, zr (some 4)), (1, zi b), (0, zr (some 2))] ⟨znx i, rfl, rfl, rfl, rfl, trivial⟩ ?_
              first
                | (have e : zrM1 h b i = h := (by clear kk ih; unfold zrM1; simp_all [xCmp, zle0, zgt0, zlt1]); have q := ih (i + 1) (zrM1 h b i) (by omega) (⟨zK_rM1 hI.1 hiN, zPn_rM1 hI.2⟩) kk; rw [e] at q; exact q)
                | (have e : zrM1 h b i = zrchT h (30 + 5 * i) := (by clear kk ih; unfold zrM1; simp_all [xCmp, zle0, zgt0, zlt1]); have q := ih (i + 1) (zrM1 h b i) (by omega) (⟨zK_rM1 hI.1 hiN, zPn_rM1 hI.2⟩) kk; rw [e] at q; exact q)
            · skip
              skip
              refine z_aloadn C rfl rfl ?_
              refine z_aload C rfl rfl ?_
              refine z_callv C rfl ⟨by decide, by decide⟩ zS_2 (c_rchT (zKg_of C) ⟨i, hiN, rfl⟩ _ hI.1 hI.2) rfl rfl (Nat.le_of_ble_eq_true rfl) ⟨Nat.le_of_ble_eq_true rfl, Nat.le_of_ble_eq_true rfl⟩ ?_
              refine z_iinc C rfl rfl ?_
              refine z_goto C rfl ?_
              refine z_ll [(4, zi (nI (i + 1))), (3, zi (nI 60)), (2, zr (some 4)), (1, zi b), (0, zr (some 2))] ⟨znx i, rfl, rfl, rfl, rfl, trivial⟩ ?_
              first
                | (have e : zrM1 h b i = h := (by clear kk ih; unfold zrM1; simp_all [xCmp, zle0, zgt0, zlt1]); have q := ih (i + 1) (zrM1 h b i) (by omega) (⟨zK_rM1 hI.1 hiN, zPn_rM1 hI.2⟩) kk; rw [e] at q; exact q)
                | (have e : zrM1 h b i = zrchT h (30 + 5 * i) := (by clear kk ih; unfold zrM1; simp_all [xCmp, zle0, zgt0, zlt1]); have q := ih (i + 1) (zrM1 h b i) (by omega) (⟨zK_rM1 hI.1 hiN, zPn_rM1 hI.2⟩) kk; rw [e] at q; exact q)
set_option maxHeartbeats 4000000 in
set_option maxRecDepth 20000 in
theorem c_rchR {κ : zK} (hκ : zKg κ) {b : Int32} (h : zH) (hw : zWk h) : zRet κ 26 [zr (some 2), zi b] h none (zrR h b) 0 0 := by
  refine zRet_of hκ (by decide) (by decide +kernel) (Nat.le_of_ble_eq_true rfl) fun ω C hK he => ?_
  refine z_aloadn C rfl rfl ?_
  refine z_iconst C rfl ?_
  refine z_puti C rfl zS_2 rfl ⟨_, rfl⟩ ?_
  refine z_aloadn C rfl rfl ?_
  refine z_gets C rfl zS_2 rfl hw.1.1.2.2.1.2.1 ?_
  refine z_astoren C rfl ?_
  refine z_aloadn C rfl rfl ?_
  refine z_alen C rfl zS_4 (by decide) ?_
  refine z_istoren C rfl ?_
  refine z_iconst C rfl ?_
  refine z_istore C rfl ?_
  refine z_ll [(4, zi (nI 0)), (3, zi (nI 60)), (2, zr (some 4)), (1, zi b), (0, zr (some 2))] ⟨rfl, rfl, rfl, rfl, rfl, trivial⟩ (l_clR C 60 0 _ rfl (zK_h hw) ?_)
  have hw1 := zK_clR 60 0 _ rfl (zK_h (j := 3) (x := Int32.ofInt (Int.ofNat 0)) hw)
  have hp1 := zPn_clR 60 0 _ (zPn_0 (h := h))
  refine z_aloadn C rfl rfl ?_
  refine z_gets C rfl zS_2 rfl hw1.1.1.2.2.1.1 ?_
  refine z_astoren C rfl ?_
  refine z_aloadn C rfl rfl ?_
  refine z_alen C rfl zS_3 (by decide) ?_
  refine z_istoren C rfl ?_
  refine z_iconst C rfl ?_
  refine z_istore C rfl ?_
  refine z_ll [(4, zi (nI 0)), (3, zi (nI 24)), (2, zr (some 3)), (1, zi b), (0, zr (some 2))] ⟨rfl, rfl, rfl, rfl, rfl, trivial⟩ (l_rG C 24 0 _ rfl ⟨hw1, hp1⟩ ?_)
  have hw2 := zK_rG (b := b) 24 0 _ rfl hw1
  have hp2 := zPn_rG (b := b) 24 0 _ hp1
  refine z_aloadn C rfl rfl ?_
  refine z_gets C rfl zS_2 rfl hw2.1.1.2.2.1.2.1 ?_
  refine z_astoren C rfl ?_
  refine z_aloadn C rfl rfl ?_
  refine z_alen C rfl zS_4 (by decide) ?_
  refine z_istoren C rfl ?_
  refine z_iconst C rfl ?_
  refine z_istore C rfl ?_
  exact z_ll [(4, zi (nI 0)), (3, zi (nI 60)), (2, zr (some 4)), (1, zi b), (0, zr (some 2))] ⟨rfl, rfl, rfl, rfl, rfl, trivial⟩ (l_rM C 60 0 _ rfl ⟨hw2, hp2⟩ (z_return C rfl he ⟨Nat.le_refl _, Nat.le_refl _⟩ rfl))

set_option maxHeartbeats 4000000 in
set_option maxRecDepth 20000 in
theorem l_nF {ω : zO} (C : zX ω 30) {r : Nat} (hr : r < 60) : ∀ (m i : Nat) (h : zH), i + m = 3 → zWk h → ZG ω 30 35 [] [] (znF r m i h) 0 0 → ZG ω 30 10 [(3, zi (nI i)), (2, zi (nI 3)), (1, zr (some (31 + 5 * r))), (0, zr (some (30 + 5 * r)))] [] h 0 0 := by
  intro m
  induction m with
  | zero =>
    intro i h hi hI kk
    obtain rfl : i = 3 := by omega
    refine z_iloadn C rfl rfl ?_
    refine z_iloadn C rfl rfl ?_
    refine z_icmp C rfl (fun hc => ?_) (fun hc => absurd (Int32.le_refl _) hc)
    exact z_ll [] trivial kk
  | succ m ih =>
    intro i h hi hI kk
    have hiN : i < 3 := by omega
    refine z_iloadn C rfl rfl ?_
    refine z_iloadn C rfl rfl ?_
    refine z_icmp C rfl (fun hc => absurd hc (nI_ge hiN (by decide))) (fun hc => ?_)
    refine z_aloadn C rfl rfl ?_
    refine z_iloadn C rfl rfl ?_
    refine z_aalds C rfl (zS_tarr r hr) (by decide) (by decide) (zin hiN (by decide)) (by rw [zclamp hiN (by decide)]; exact (hI.1.1.2.2.2.2.2.1 r hr).2.2 i hiN) ?_
    refine z_astore C rfl ?_
    refine z_aloadn C rfl rfl ?_
    refine z_geti C rfl (zS_thing r hr) rfl ?_
    refine z_aload C rfl rfl ?_
    refine z_calls C rfl ⟨by decide, by decide, by decide⟩ (c_noteP (zKg_of C) (zS_tval r hr i hiN) _ hI) rfl rfl (Nat.le_of_ble_eq_true rfl) ⟨Nat.le_of_ble_eq_true rfl, Nat.le_of_ble_eq_true rfl⟩ ?_
    refine z_iinc C rfl rfl ?_
    refine z_goto C rfl ?_
    exact z_ll [(3, zi (nI (i + 1))), (2, zi (nI 3)), (1, zr (some (31 + 5 * r))), (0, zr (some (30 + 5 * r)))] ⟨znx i, rfl, rfl, rfl, trivial⟩ (ih (i + 1) _ (by omega) (zK_noteP hI (zS_tval r hr i hiN)) kk)
set_option maxHeartbeats 4000000 in
set_option maxRecDepth 20000 in
theorem c_nF {κ : zK} (hκ : zKg κ) {r : Nat} (hr : r < 60) (h : zH) (hw : zWk h) : zRet κ 30 [zr (some (30 + 5 * r))] h none (znF r 3 0 h) 0 0 := by
  refine zRet_of hκ (by decide) (by decide +kernel) (Nat.le_of_ble_eq_true rfl) fun ω C hK he => ?_
  refine z_aloadn C rfl rfl ?_
  refine z_gets C rfl (zS_thing r hr) rfl (hw.1.1.2.2.2.2.2.1 r hr).2.1 ?_
  refine z_astoren C rfl ?_
  refine z_aloadn C rfl rfl ?_
  refine z_alen C rfl (zS_tarr r hr) (by decide) ?_
  refine z_istoren C rfl ?_
  refine z_iconst C rfl ?_
  refine z_istoren C rfl ?_
  exact z_ll [(3, zi (nI 0)), (2, zi (nI 3)), (1, zr (some (31 + 5 * r))), (0, zr (some (30 + 5 * r)))] ⟨rfl, rfl, rfl, rfl, trivial⟩ (l_nF C hr 3 0 _ rfl hw (z_return C rfl he ⟨Nat.le_refl _, Nat.le_refl _⟩ rfl))

set_option maxHeartbeats 4000000 in
set_option maxRecDepth 20000 in
theorem l_nC {ω : zO} (C : zX ω 29)  : ∀ (m i : Nat) (h : zH), i + m = 60 → zWk h → ZG ω 29 32 [(0, zr (some 2))] [] (znC m i h) 0 0 → ZG ω 29 10 [(3, zi (nI i)), (2, zi (nI 60)), (1, zr (some 4)), (0, zr (some 2))] [] h 0 0 := by
  intro m
  induction m with
  | zero =>
    intro i h hi hI kk
    obtain rfl : i = 60 := by omega
    refine z_iloadn C rfl rfl ?_
    refine z_iloadn C rfl rfl ?_
    refine z_icmp C rfl (fun hc => ?_) (fun hc => absurd (Int32.le_refl _) hc)
    exact z_ll [(0, zr (some 2))] ⟨rfl, trivial⟩ kk
  | succ m ih =>
    intro i h hi hI kk
    have hiN : i < 60 := by omega
    refine z_iloadn C rfl rfl ?_
    refine z_iloadn C rfl rfl ?_
    refine z_icmp C rfl (fun hc => absurd hc (nI_ge hiN (by decide))) (fun hc => ?_)
    refine z_aloadn C rfl rfl ?_
    refine z_iloadn C rfl rfl ?_
    refine z_aalds C rfl zS_4 (by decide) (by decide) (zin hiN (by decide)) (by rw [zclamp hiN (by decide)]; exact zroomR hI.1.1 hiN) ?_
    refine z_astore C rfl ?_
    refine z_aload C rfl rfl ?_
    refine z_iconst C rfl ?_
    refine z_puti C rfl (zS_thing i hiN) rfl (by first | exact ⟨_, rfl, by decide, by decide⟩ | exact ⟨_, rfl, Or.inl rfl⟩ | exact ⟨_, rfl, Or.inr rfl⟩ | assumption) ?_
    refine z_iinc C rfl rfl ?_
    refine z_goto C rfl ?_
    exact z_ll [(3, zi (nI (i + 1))), (2, zi (nI 60)), (1, zr (some 4)), (0, zr (some 2))] ⟨znx i, rfl, rfl, rfl, trivial⟩ (ih (i + 1) _ (by omega) (zK_n hI hiN (fun _ => zBo0) (fun e => by cases e)) kk)
set_option maxHeartbeats 4000000 in
set_option maxRecDepth 20000 in
theorem l_nG {ω : zO} (C : zX ω 29)  : ∀ (m i : Nat) (h : zH), i + m = 24 → zWk h → ZG ω 29 59 [(0, zr (some 2))] [] (znG m i h) 0 0 → ZG ω 29 34 [(1, zi (nI i)), (0, zr (some 2))] [] h 0 0 := by
  intro m
  induction m with
  | zero =>
    intro i h hi hI kk
    obtain rfl : i = 24 := by omega
    refine z_iloadn C rfl rfl ?_
    refine z_bipush C rfl ?_
    refine z_icmp C rfl (fun hc => ?_) (fun hc => absurd (Int32.le_refl _) hc)
    exact z_ll [(0, zr (some 2))] ⟨rfl, trivial⟩ kk
  | succ m ih =>
    intro i h hi hI kk
    have hiN : i < 24 := by omega
    refine z_iloadn C rfl rfl ?_
    refine z_bipush C rfl ?_
    refine z_icmp C rfl (fun hc => absurd hc (nI_ge hiN (by decide))) (fun hc => ?_)
    refine z_iloadn C rfl rfl ?_
    refine z_bipush C rfl ?_
    refine z_idiv C rfl (by decide) ?_
    refine z_aloadn C rfl rfl ?_
    refine z_gets C rfl zS_2 rfl hI.1.1.2.2.1.1 ?_
    refine z_iloadn C rfl rfl ?_
    refine z_aalds C rfl zS_3 (by decide) (by decide) (zin hiN (by decide)) (by rw [zclamp hiN (by decide)]; exact hI.1.1.2.2.2.2.1 i hiN) ?_
    refine z_calls C rfl ⟨by decide, by decide, by decide⟩ (c_noteP (zKg_of C) (zS_val24 i hiN) _ hI) rfl rfl (Nat.le_of_ble_eq_true rfl) ⟨Nat.le_of_ble_eq_true rfl, Nat.le_of_ble_eq_true rfl⟩ ?_
    refine z_iinc C rfl rfl ?_
    refine z_goto C rfl ?_
    exact z_ll [(1, zi (nI (i + 1))), (0, zr (some 2))] ⟨znx i, rfl, trivial⟩ (ih (i + 1) _ (by omega) (zK_noteP hI (zS_val24 i hiN)) kk)
set_option maxHeartbeats 4000000 in
set_option maxRecDepth 20000 in
theorem l_nM {ω : zO} (C : zX ω 29)  : ∀ (m i : Nat) (h : zH), i + m = 60 → zWk h → ZG ω 29 98 [] [] (znM m i h) 0 0 → ZG ω 29 69 [(3, zi (nI i)), (2, zi (nI 60)), (1, zr (some 4)), (0, zr (some 2))] [] h 0 0 := by
  intro m
  induction m with
  | zero =>
    intro i h hi hI kk
    obtain rfl : i = 60 := by omega
    refine z_iloadn C rfl rfl ?_
    refine z_iloadn C rfl rfl ?_
    refine z_icmp C rfl (fun hc => ?_) (fun hc => absurd (Int32.le_refl _) hc)
    exact z_ll [] trivial kk
  | succ m ih =>
    intro i h hi hI kk
    have hiN : i < 60 := by omega
    refine z_iloadn C rfl rfl ?_
    refine z_iloadn C rfl rfl ?_
    refine z_icmp C rfl (fun hc => absurd hc (nI_ge hiN (by decide))) (fun hc => ?_)
    refine z_aloadn C rfl rfl ?_
    refine z_iloadn C rfl rfl ?_
    refine z_aalds C rfl zS_4 (by decide) (by decide) (zin hiN (by decide)) (by rw [zclamp hiN (by decide)]; exact zroomR hI.1.1 hiN) ?_
    refine z_astore C rfl ?_
    refine z_aload C rfl rfl ?_
    refine z_geti C rfl (zS_thing i hiN) rfl ?_
    refine z_if C rfl (fun hc1 => ?_) (fun hc1 => ?_)
    · skip
      skip
      refine z_iinc C rfl rfl ?_
      refine z_goto C rfl ?_
      refine z_ll [(3, zi (nI (i + 1))), (2, zi (nI 60)), (1, zr (some 4)), (0, zr (some 2))] ⟨znx i, rfl, rfl, rfl, trivial⟩ ?_
      first
        | (have e : znM1 h i = h := (by clear kk ih; unfold znM1; simp_all [xCmp, zle0, zgt0, zlt1]); have q := ih (i + 1) (znM1 h i) (by omega) (zK_nM1 hI hiN) kk; rw [e] at q; exact q)
        | (have e : znM1 h i = znF i 3 0 h := (by clear kk ih; unfold znM1; simp_all [xCmp, zle0, zgt0, zlt1]); have q := ih (i + 1) (znM1 h i) (by omega) (zK_nM1 hI hiN) kk; rw [e] at q; exact q)
    · skip
      skip
      refine z_aload C rfl rfl ?_
      refine z_calls C rfl ⟨by decide, by decide, by decide⟩ (c_nF (zKg_of C) hiN _ hI) rfl rfl (Nat.le_of_ble_eq_true rfl) ⟨Nat.le_of_ble_eq_true rfl, Nat.le_of_ble_eq_true rfl⟩ ?_
      refine z_iinc C rfl rfl ?_
      refine z_goto C rfl ?_
      refine z_ll [(3, zi (nI (i + 1))), (2, zi (nI 60)), (1, zr (some 4)), (0, zr (some 2))] ⟨znx i, rfl, rfl, rfl, trivial⟩ ?_
      first
        | (have e : znM1 h i = h := (by clear kk ih; unfold znM1; simp_all [xCmp, zle0, zgt0, zlt1]); have q := ih (i + 1) (znM1 h i) (by omega) (zK_nM1 hI hiN) kk; rw [e] at q; exact q)
        | (have e : znM1 h i = znF i 3 0 h := (by clear kk ih; unfold znM1; simp_all [xCmp, zle0, zgt0, zlt1]); have q := ih (i + 1) (znM1 h i) (by omega) (zK_nM1 hI hiN) kk; rw [e] at q; exact q)
set_option maxHeartbeats 4000000 in
set_option maxRecDepth 20000 in
theorem c_renew {κ : zK} (hκ : zKg κ)  (h : zH) (hw : zWk h) : zRet κ 29 [zr (some 2)] h none (zrenew h) 0 0 := by
  refine zRet_of hκ (by decide) (by decide +kernel) (Nat.le_of_ble_eq_true rfl) fun ω C hK he => ?_
  refine z_aloadn C rfl rfl ?_
  refine z_gets C rfl zS_2 rfl hw.1.1.2.2.1.2.1 ?_
  refine z_astoren C rfl ?_
  refine z_aloadn C rfl rfl ?_
  refine z_alen C rfl zS_4 (by decide) ?_
  refine z_istoren C rfl ?_
  refine z_iconst C rfl ?_
  refine z_istoren C rfl ?_
  refine z_ll [(3, zi (nI 0)), (2, zi (nI 60)), (1, zr (some 4)), (0, zr (some 2))] ⟨rfl, rfl, rfl, rfl, trivial⟩ (l_nC C 60 0 _ rfl hw ?_)
  have hw1 := zK_nC 60 0 _ rfl hw
  refine z_iconst C rfl ?_
  refine z_istoren C rfl ?_
  refine z_ll [(1, zi (nI 0)), (0, zr (some 2))] ⟨rfl, rfl, trivial⟩ (l_nG C 24 0 _ rfl hw1 ?_)
  have hw2 := zK_nG 24 0 _ rfl hw1
  refine z_aloadn C rfl rfl ?_
  refine z_gets C rfl zS_2 rfl hw2.1.1.2.2.1.2.1 ?_
  refine z_astoren C rfl ?_
  refine z_aloadn C rfl rfl ?_
  refine z_alen C rfl zS_4 (by decide) ?_
  refine z_istoren C rfl ?_
  refine z_iconst C rfl ?_
  refine z_istoren C rfl ?_
  exact z_ll [(3, zi (nI 0)), (2, zi (nI 60)), (1, zr (some 4)), (0, zr (some 2))] ⟨rfl, rfl, rfl, rfl, trivial⟩ (l_nM C 60 0 _ rfl hw2 (z_return C rfl he ⟨Nat.le_refl _, Nat.le_refl _⟩ rfl))

