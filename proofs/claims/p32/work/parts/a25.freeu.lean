/-! what is not reached is freed -/
theorem zfl_0 {g : zH} : ∀ n, (∀ r, r < n → g.1 (30 + 5 * r) 5 = 0) → zfl g n = 0
  | 0, _ => rfl
  | n + 1, e => by
    unfold zfl
    rw [zfl_0 n (fun r hr => e r (by omega)), if_pos (e n (by omega))]
theorem zclR_ok : ∀ (m i : Nat) (g : zH), i + m = 60 → zQ5 g (zclR m i g) ∧ (∀ r, r < 60 → i ≤ r → (zclR m i g).1 (30 + 5 * r) 5 = 0) ∧ (∀ r, r < i → (zclR m i g).1 (30 + 5 * r) 5 = g.1 (30 + 5 * r) 5) ∧ (zclR m i g).1 2 3 = g.1 2 3 ∧ (zclR m i g).2 = g.2
  | 0, i, g, e => ⟨zQ5_refl, fun r _ _ => by omega, fun _ _ => rfl, rfl, rfl⟩
  | m + 1, i, g, e => by
    obtain ⟨a, b, c, d, f⟩ := zclR_ok m (i + 1) (zupI g (30 + 5 * i) 5 (Int32.ofInt (Int.ofNat 0))) (by omega)
    refine ⟨zQ5_tr (g := zupI g (30 + 5 * i) 5 (Int32.ofInt (Int.ofNat 0))) ⟨rfl, rfl, fun _ _ => rfl, fun c s p q => zupI_ne (fun w => p ⟨⟨i, by omega, w.1⟩, w.2⟩)⟩ a, fun r hr hi => ?_, fun r hr => ?_, ?_, f⟩
    · by_cases w : i + 1 ≤ r
      · exact b r hr w
      · obtain rfl : r = i := by omega
        have := c r (by omega)
        show (zclR m (r + 1) (zupI g (30 + 5 * r) 5 (Int32.ofInt (Int.ofNat 0)))).1 (30 + 5 * r) 5 = 0
        rw [this, zupI_at]
        rfl
    · show (zclR m (i + 1) (zupI g (30 + 5 * i) 5 (Int32.ofInt (Int.ofNat 0)))).1 (30 + 5 * r) 5 = _
      rw [c r (by omega), zupI_ne (fun w => by omega)]
    · show (zclR m (i + 1) (zupI g (30 + 5 * i) 5 (Int32.ofInt (Int.ofNat 0)))).1 2 3 = _
      rw [d, zupI_ne (fun w => by omega)]
theorem zreach_ok {h : zH} {b : Int32} {P : Nat → Prop} (hw : zWk h) (p1 : ∀ x, x < 24 → ∀ r, zed h b (6 + x) r → P r) (p2 : ∀ r, r < 60 → zrt h b r → P r) (p3 : ∀ t, t < 60 → P t → ∀ f, f < 3 → ∀ r, zed h b (32 + 5 * t + f) r → P r) :
    zQ5 h (zfu b 60 0 (zrR h b)) ∧ (∀ r, r < 60 → zfg (zfu b 60 0 (zrR h b)) r → P r) ∧ (∀ x, x < 24 → ∀ r, zed h b (6 + x) r → zfg (zfu b 60 0 (zrR h b)) r) ∧ (∀ r, r < 60 → zrt h b r → zfg (zfu b 60 0 (zrR h b)) r) ∧
    ∀ t, t < 60 → zfg (zfu b 60 0 (zrR h b)) t → ∀ f, f < 3 → ∀ r, zed h b (32 + 5 * t + f) r → zfg (zfu b 60 0 (zrR h b)) r := by
  obtain ⟨c1, c2, -, c4, c5⟩ := zclR_ok 60 0 (zupI h 2 3 (Int32.ofInt (Int.ofNat 0))) rfl
  have B0 : zBrw h (zclR 60 0 (zupI h 2 3 (Int32.ofInt (Int.ofNat 0)))) P 0 := by
    refine ⟨zQ5_tr (g := zupI h 2 3 (Int32.ofInt (Int.ofNat 0))) ⟨rfl, rfl, fun _ _ => rfl, fun c s p q => zupI_ne q⟩ c1, Nat.zero_le _, by rw [c4, zupI_at]; rfl, fun j hj => absurd hj (Nat.not_lt_zero j), fun r hr q => absurd (c2 r hr (Nat.zero_le _)) q, ?_⟩
    rw [zfl_0 60 (fun r hr => c2 r hr (Nat.zero_le _))]
  obtain ⟨q1, B1, G1, F1⟩ := zrG_B hw p1 24 0 _ 0 rfl B0
  obtain ⟨q2, B2, G2, F2⟩ := zrM_B p2 60 0 _ q1 rfl B1
  obtain ⟨q3, B3, G3, F3⟩ := zfu_B hw p3 60 0 _ q2 rfl B2 (fun i hi => absurd hi (Nat.not_lt_zero i))
  have e : zrR h b = zrM b 60 0 (zrG b 24 0 (zclR 60 0 (zupI h 2 3 (Int32.ofInt (Int.ofNat 0))))) := rfl
  rw [e]
  exact ⟨B3.1, fun r hr q => (B3.2.2.2.2.1 r hr q).1, fun x hx r q => G3.2.1 r q.1 (G2.2.1 r q.1 (F1 x (Nat.zero_le _) hx r q)), fun r hr q => G3.2.1 r hr (F2 r (Nat.zero_le _) hr q), F3⟩
/-! the frees -/
theorem zFr_Cnt {h h' : zH} {i M : Nat} (A : zFr h h' i) (hi : i < 60) (C : zCnt h) (hM : M ≤ 1000000) (hm : h.1 2 4 = nI M) (h0 : 0 ≤ h.1 (30 + 5 * i) 0) : zCnt h' := by
  obtain ⟨F, hF, d1, d2⟩ := C
  have t2 : h'.1 2 4 = h.1 2 4 := A.off 2 4 (fun q => by have := zTh_ge q.2; omega) (fun q => by omega) (fun q => by omega)
  have lv := zFr_lv A h0 60
  rw [if_pos hi] at lv
  have l60 := zlv_le (h := h) 60
  refine ⟨F + 1, ?_, ?_, ?_⟩
  · rw [hm] at d2
    have := (nI_eq (by omega) (by omega)).mp d2
    omega
  · rw [A.fr, d1]
    exact (nI_succ F).symm
  · rw [t2, d2]
    congr 1
    omega
theorem zfree_Fr {h : zH} {i : Nat} : zFr h (zfree h (30 + 5 * i)) i := by
  refine ⟨rfl, ?_, ?_, fun c s h4 h0 h5 => ?_⟩
  · show (zupI (zupI _ (30 + 5 * i) 0 _) 2 5 _).1 (30 + 5 * i) 0 = _
    rw [zupI_ne (fun q => by omega), zupI_at]
  · show (zupI (zupI _ (30 + 5 * i) 0 _) 2 5 _).1 2 5 = _
    rw [zupI_at]
  · show (zupI (zupI _ (30 + 5 * i) 0 _) 2 5 _).1 c s = _
    rw [zupI_ne h5, zupI_ne h0]
theorem zfree_off {h : zH} {i : Nat} {c s : Nat} (h0 : ¬ (c = 30 + 5 * i ∧ s = 0)) (h5 : ¬ (c = 2 ∧ s = 5)) : (zfree h (30 + 5 * i)).1 c s = h.1 c s := by
  show (zupI (zupI _ (30 + 5 * i) 0 _) 2 5 _).1 c s = _
  rw [zupI_ne h5, zupI_ne h0]
def zcan (g : zH) (b : Int32) (r : Nat) : Prop := 0 ≤ g.1 (30 + 5 * r) 0 ∧ (¬ b = 0 ∨ ¬ g.1 (30 + 5 * r) 1 = 0) ∧ g.1 (30 + 5 * r) 5 = 0
theorem zfrL_ok {b : Int32} {M : Nat} (hM : M ≤ 1000000) : ∀ (m i : Nat) (g : zH), i + m = 60 → zCnt g → g.1 2 4 = nI M → (zfrL b m i g).2 = g.2 ∧ (∀ c s, ¬ (zTh c ∧ s = 0) → ¬ (c = 2 ∧ s = 5) → (zfrL b m i g).1 c s = g.1 c s) ∧
    (∀ r, r < 60 → i ≤ r → zcan g b r → (zfrL b m i g).1 (30 + 5 * r) 0 = Int32.ofInt (Int.negSucc 0)) ∧ (∀ r, r < 60 → ¬ (i ≤ r ∧ zcan g b r) → (zfrL b m i g).1 (30 + 5 * r) 0 = g.1 (30 + 5 * r) 0) ∧ zCnt (zfrL b m i g) ∧ ((∀ r, i ≤ r → r < 60 → ¬ zcan g b r) → zfrL b m i g = g)
  | 0, i, g, e, C, hm => ⟨rfl, fun _ _ _ _ => rfl, fun r _ _ _ => by omega, fun _ _ _ => rfl, C, fun _ => rfl⟩
  | m + 1, i, g, e, C, hm => by
    have u : zfrL b (m + 1) i g = zfrL b m (i + 1) (zfr1 g b i) := rfl
    rw [u]
    by_cases q : zcan g b i
    · have E : zfr1 g b i = zfree g (30 + 5 * i) := by
        exact if_pos q
      rw [E]
      have A : zFr g (zfree g (30 + 5 * i)) i := zfree_Fr
      obtain ⟨a1, a2, a3, a4, a5, a6⟩ := zfrL_ok hM m (i + 1) (zfree g (30 + 5 * i)) (by omega) (zFr_Cnt A (by omega) C hM hm q.1) ((zfree_off (fun w => by omega) (fun w => by omega)).trans hm)
      have cs : ∀ r, r ≠ i → (zcan (zfree g (30 + 5 * i)) b r ↔ zcan g b r) := fun r hr => by
        unfold zcan
        rw [zfree_off (fun w => by omega) (fun w => by omega), zfree_off (fun w => by omega) (fun w => by omega), zfree_off (fun w => by omega) (fun w => by omega)]
      refine ⟨a1, fun c s p0 p5 => ?_, fun r hr hi c => ?_, fun r hr n => ?_, a5, fun n => absurd q (n i (Nat.le_refl _) (by omega))⟩
      · rw [a2 c s p0 p5, zfree_off (fun w => p0 ⟨⟨i, by omega, w.1⟩, w.2⟩) p5]
      · by_cases w : r = i
        · subst w
          rw [a4 r hr (fun z => by omega), A.at0]
        · exact a3 r hr (by omega) ((cs r w).mpr c)
      · have w : r ≠ i := fun w => n ⟨by omega, w ▸ q⟩
        rw [a4 r hr (fun z => n ⟨by omega, (cs r w).mp z.2⟩), zfree_off (fun w => by omega) (fun w => by omega)]
    · have E : zfr1 g b i = g := by
        exact if_neg q
      rw [E]
      obtain ⟨a1, a2, a3, a4, a5, a6⟩ := zfrL_ok hM m (i + 1) g (by omega) C hm
      refine ⟨a1, a2, fun r hr hi c => a3 r hr ?_ c, fun r hr n => a4 r hr (fun z => n ⟨by omega, z.2⟩), a5, fun n => a6 (fun r h1 h2 => n r (by omega) h2)⟩
      by_cases w : r = i
      · subst w
        exact absurd c q
      · omega
/-! a heap of which some things are gone -/
def zQx (h g : zH) : Prop := g.2.1 = h.2.1 ∧ g.2.2.1 = h.2.2.1 ∧ (∀ c, c ≠ 5 → g.2.2.2 c = h.2.2.2 c) ∧ ∀ c s, ¬ (zTh c ∧ (s = 0 ∨ s = 4 ∨ s = 5)) → ¬ (c = 2 ∧ (s = 3 ∨ s = 5)) → g.1 c s = h.1 c s
theorem zQx_v {h g : zH} (a : zQx h g) {k s : Nat} (hk : zS k = (0, 6, 6)) : g.1 k s = h.1 k s := a.2.2.2 k s (fun q => by have e := zTh_S q.1; rw [hk] at e; cases e) (fun q => zne_o hk zS_2 (by omega) q.1)
theorem zQx_r {h g : zH} (a : zQx h g) {k s : Nat} (hk : zS k = (0, 6, 6)) : g.2.2.2 k s = h.2.2.2 k s := by rw [a.2.2.1 k (zne_o hk zS_5 (by omega))]
theorem zQx_th {h g : zH} (a : zQx h g) {r s : Nat} (hs : s = 1 ∨ s = 2 ∨ s = 3) : g.1 (30 + 5 * r) s = h.1 (30 + 5 * r) s := a.2.2.2 _ s (fun q => by omega) (fun q => by omega)
theorem zQx_Gd {h g : zH} (a : zQx h g) {k : Nat} (hk : zS k = (0, 6, 6)) (gd : zGd h k) (n : ∀ r, r < 60 → h.1 k 0 = 116 → h.2.2.2 k 5 = some (30 + 5 * r) → g.1 (30 + 5 * r) 0 = h.1 (30 + 5 * r) 0) : zGd g k := by
  intro e
  rw [zQx_v a hk] at e
  obtain ⟨r, hr, e1, e2, e3⟩ := gd e
  have w := n r hr e e1
  refine ⟨r, hr, by rw [zQx_r a hk]; exact e1, by rw [w]; exact e2, ?_⟩
  rw [w, a.1, zQx_v a hk]
  exact e3
theorem zQx_pr {h g : zH} (a : zQx h g) (hw : zWk h) {k : Nat} (hk : zS k = (0, 6, 6)) (p : zpr h k) : zpr g k := by
  intro e t ht e1
  rw [zQx_v a hk] at e
  rw [zQx_r a hk] at ht
  obtain ⟨r, hr, rfl⟩ := hw.1.2.1 k hk t ht
  rw [zQx_th a (by omega)] at e1 ⊢
  exact p e _ ht e1
theorem zHI_sub {h g : zH} (a : zQx h g) (hw : zWk h) (H : zHI h) (C : zCnt g) (sub : ∀ r, r < 60 → g.1 (30 + 5 * r) 0 = h.1 (30 + 5 * r) 0 ∨ g.1 (30 + 5 * r) 0 < 0)
    (nG : ∀ x, x < 24 → ∀ r, r < 60 → h.1 (6 + x) 0 = 116 → h.2.2.2 (6 + x) 5 = some (30 + 5 * r) → g.1 (30 + 5 * r) 0 = h.1 (30 + 5 * r) 0)
    (nF : ∀ j f, j < 60 → 0 ≤ g.1 (30 + 5 * j) 0 → f < 3 → ∀ r, r < 60 → h.1 (32 + 5 * j + f) 0 = 116 → h.2.2.2 (32 + 5 * j + f) 5 = some (30 + 5 * r) → g.1 (30 + 5 * r) 0 = h.1 (30 + 5 * r) 0) : zHI g := by
  obtain ⟨p, b, ⟨c1, c2⟩, -⟩ := H
  have t2 : g.1 2 4 = h.1 2 4 := a.2.2.2 2 4 (fun q => zTh_2 q.1) (fun q => by omega)
  have live : ∀ r, r < 60 → 0 ≤ g.1 (30 + 5 * r) 0 → g.1 (30 + 5 * r) 0 = h.1 (30 + 5 * r) 0 := fun r hr q => by
    rcases sub r hr with w | w
    · exact w
    · exact absurd q (Int32.not_le.mpr w)
  refine ⟨fun x hx => ⟨zQx_Gd a (zS_val24 x hx) (p x hx).1 (nG x hx), fun h8 => zQx_pr a hw (zS_val24 x hx) ((p x hx).2 h8)⟩, fun r hr q => ?_, ⟨fun r hr q => ?_, fun r s hr hs q e => ?_⟩, C⟩
  · have q' := q
    rw [live r hr q] at q'
    rw [zQx_th a (by omega)]
    exact ⟨(b r hr q').1, fun f hf => ⟨zQx_Gd a (zS_tval r hr f hf) ((b r hr q').2 f hf).1 (nF r f hr q hf), fun hl => zQx_pr a hw (zS_tval r hr f hf) (((b r hr q').2 f hf).2 hl)⟩⟩
  · have w := live r hr q
    rw [w, t2]
    rw [w] at q
    exact c1 r hr q
  · have w := live r hr q
    have w2 := live s hs (e ▸ q)
    rw [w] at q e
    rw [w2] at e
    exact c2 r s hr hs q e
