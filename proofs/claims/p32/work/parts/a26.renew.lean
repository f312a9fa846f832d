/-! proxies anew -/
def zQ3 (h g : zH) : Prop := g.2 = h.2 ∧ ∀ c s, ¬ (zTh c ∧ s = 3) → g.1 c s = h.1 c s
def zMo (h g : zH) : Prop := ∀ r, r < 60 → h.1 (30 + 5 * r) 3 ≠ 0 → g.1 (30 + 5 * r) 3 ≠ 0
theorem zQ3_refl {h : zH} : zQ3 h h := ⟨rfl, fun _ _ _ => rfl⟩
theorem zQ3_tr {h g k : zH} (a : zQ3 h g) (b : zQ3 g k) : zQ3 h k := ⟨b.1.trans a.1, fun c s p => (b.2 c s p).trans (a.2 c s p)⟩
theorem zMo_refl {h : zH} : zMo h h := fun _ _ q => q
theorem zMo_tr {h g k : zH} (a : zMo h g) (b : zMo g k) : zMo h k := fun r hr q => b r hr (a r hr q)
theorem zQ3_0 {h g : zH} (a : zQ3 h g) {c s : Nat} (hs : s ≠ 3) : g.1 c s = h.1 c s := a.2 c s (fun q => hs q.2)
theorem zQ3_R {h g : zH} (a : zQ3 h g) : g.2.2.2 = h.2.2.2 := congrArg (fun z => z.2.2) a.1
theorem zQ3_3 {h : zH} {r : Nat} (hr : r < 60) {x : Int32} : zQ3 h (zupI h (30 + 5 * r) 3 x) := ⟨rfl, fun c s q => zupI_ne (fun w => q ⟨w.1 ▸ ⟨r, hr, rfl⟩, w.2⟩)⟩
theorem zQ3_pr {h g : zH} (a : zQ3 h g) (m : zMo h g) (hw : zWk h) {k : Nat} (hk : zS k = (0, 6, 6)) (p : zpr h k) : zpr g k := by
  intro e t ht e1
  rw [zQ3_0 a (by decide)] at e e1
  rw [zQ3_R a] at ht
  obtain ⟨r, hr, rfl⟩ := hw.1.2.1 k hk t ht
  exact m r hr (p e _ ht e1)
theorem znoteP_3 {h : zH} (hw : zWk h) {l : Int32} {k : Nat} (hk : zS k = (0, 6, 6)) : zQ3 h (znoteP h l k) ∧ zMo h (znoteP h l k) ∧ (l ≠ 0 → zpr (znoteP h l k) k) := by
  by_cases c : ¬ l = 0 ∧ zisRef h k = true
  · obtain ⟨c1, c2⟩ := c
    obtain ⟨t, ht, r, hr, rfl⟩ := zref_t hw.1 hk c2
    have E : znoteP h l k = if h.1 (30 + 5 * r) 1 = 0 then zupI h (30 + 5 * r) 3 (Int32.ofInt (Int.ofNat 1)) else h := by
      unfold znoteP
      rw [if_pos ⟨c1, c2⟩, ht]
    rw [E]
    split
    · rename_i l0
      refine ⟨zQ3_3 hr, fun s hs q => ?_, fun _ e t' ht' e1 => ?_⟩
      · by_cases w : s = r
        · subst w
          rw [zupI_at]
          decide
        · rw [zupI_ne (fun z => w (by omega))]
          exact q
      · have ht' : h.2.2.2 k 5 = some t' := ht'
        rw [ht] at ht'
        injection ht' with ht'
        subst ht'
        rw [zupI_at]
        decide
    · rename_i l0
      refine ⟨zQ3_refl, zMo_refl, fun _ e t' ht' e1 => ?_⟩
      rw [ht] at ht'
      injection ht' with ht'
      subst ht'
      exact absurd e1 l0
  · have E : znoteP h l k = h := by
      unfold znoteP
      rw [if_neg c]
    rw [E]
    refine ⟨zQ3_refl, zMo_refl, fun hl e t ht e1 => absurd ⟨hl, ?_⟩ c⟩
    unfold zisRef
    rw [e, ht]
    rfl
theorem znG_ok : ∀ (m i : Nat) (g : zH), i + m = 24 → zWk g → zQ3 g (znG m i g) ∧ zMo g (znG m i g) ∧ ∀ x, i ≤ x → x < 24 → 8 ≤ x → zpr (znG m i g) (6 + x)
  | 0, i, g, e, hw => ⟨zQ3_refl, zMo_refl, fun x h1 h2 => by omega⟩
  | m + 1, i, g, e, hw => by
    have hk := zS_val24 i (by omega)
    obtain ⟨a, b, c⟩ := znoteP_3 hw hk (l := nI i / Int32.ofInt (Int.ofNat 8))
    have hw1 := zK_noteP hw hk (l := nI i / Int32.ofInt (Int.ofNat 8))
    obtain ⟨a2, b2, c2⟩ := znG_ok m (i + 1) _ (by omega) hw1
    refine ⟨zQ3_tr a a2, zMo_tr b b2, fun x h1 h2 h8 => ?_⟩
    by_cases w : x = i
    · subst w
      refine zQ3_pr a2 b2 hw1 hk (c ?_)
      rw [zdv8 (by omega)]
      exact nI_ne0 (by omega) (by omega)
    · exact c2 x (by omega) h2 h8
theorem znF_ok {r : Nat} (hr : r < 60) : ∀ (m i : Nat) (g : zH), i + m = 3 → zWk g → zQ3 g (znF r m i g) ∧ zMo g (znF r m i g) ∧ ∀ f, i ≤ f → f < 3 → g.1 (30 + 5 * r) 1 ≠ 0 → zpr (znF r m i g) (32 + 5 * r + f)
  | 0, i, g, e, hw => ⟨zQ3_refl, zMo_refl, fun x h1 h2 => by omega⟩
  | m + 1, i, g, e, hw => by
    have hk := zS_tval r hr i (by omega)
    obtain ⟨a, b, c⟩ := znoteP_3 hw hk (l := g.1 (30 + 5 * r) 1)
    have hw1 := zK_noteP hw hk (l := g.1 (30 + 5 * r) 1)
    obtain ⟨a2, b2, c2⟩ := znF_ok hr m (i + 1) _ (by omega) hw1
    refine ⟨zQ3_tr a a2, zMo_tr b b2, fun x h1 h2 hl => ?_⟩
    by_cases w : x = i
    · subst w
      exact zQ3_pr a2 b2 hw1 hk (c hl)
    · exact c2 x (by omega) h2 (by rw [zQ3_0 a (by decide)]; exact hl)
theorem znM_ok : ∀ (m i : Nat) (g : zH), i + m = 60 → zWk g → zQ3 g (znM m i g) ∧ zMo g (znM m i g) ∧ ∀ r, i ≤ r → r < 60 → 0 ≤ g.1 (30 + 5 * r) 0 → g.1 (30 + 5 * r) 1 ≠ 0 → ∀ f, f < 3 → zpr (znM m i g) (32 + 5 * r + f)
  | 0, i, g, e, hw => ⟨zQ3_refl, zMo_refl, fun x h1 h2 => by omega⟩
  | m + 1, i, g, e, hw => by
    have one : zQ3 g (znM1 g i) ∧ zMo g (znM1 g i) ∧ (0 ≤ g.1 (30 + 5 * i) 0 → g.1 (30 + 5 * i) 1 ≠ 0 → ∀ f, f < 3 → zpr (znM1 g i) (32 + 5 * i + f)) := by
      unfold znM1
      split
      · rename_i c
        exact ⟨zQ3_refl, zMo_refl, fun q => absurd q (Int32.not_le.mpr c)⟩
      · obtain ⟨a, b, c⟩ := znF_ok (r := i) (by omega) 3 0 g rfl hw
        exact ⟨a, b, fun _ hl f hf => c f (Nat.zero_le _) hf hl⟩
    obtain ⟨a, b, c⟩ := one
    have hw1 := zK_nM1 hw (i := i) (by omega)
    obtain ⟨a2, b2, c2⟩ := znM_ok m (i + 1) _ (by omega) hw1
    refine ⟨zQ3_tr a a2, zMo_tr b b2, fun r h1 h2 q hl f hf => ?_⟩
    by_cases w : r = i
    · subst w
      exact zQ3_pr a2 b2 hw1 (zS_tval r h2 f hf) (c q hl f hf)
    · exact c2 r (by omega) h2 (by rw [zQ3_0 a (by decide)]; exact q) (by rw [zQ3_0 a (by decide)]; exact hl) f hf
theorem znC_ok : ∀ (m i : Nat) (g : zH), i + m = 60 → zQ3 g (znC m i g)
  | 0, _, _, _ => zQ3_refl
  | m + 1, i, g, e => zQ3_tr (zQ3_3 (by omega)) (znC_ok m (i + 1) (zupI g (30 + 5 * i) 3 (Int32.ofInt (Int.ofNat 0))) (by omega))
theorem zrenew_ok {h : zH} (hw : zWk h) (H : zHI h) : zHI (zrenew h) ∧ zQ3 h (zrenew h) := by
  have a0 := znC_ok 60 0 h rfl
  have w0 := zK_nC 60 0 h rfl hw
  obtain ⟨a1, b1, c1⟩ := znG_ok 24 0 _ rfl w0
  have w1 := zK_nG 24 0 _ rfl w0
  obtain ⟨a2, b2, c2⟩ := znM_ok 60 0 _ rfl w1
  have Q := zQ3_tr a0 (zQ3_tr a1 a2)
  refine ⟨?_, Q⟩
  show zHI (znM 60 0 (znG 24 0 (znC 60 0 h)))
  have Q1 := zQ3_tr a0 a1
  generalize znM 60 0 (znG 24 0 (znC 60 0 h)) = g at *
  obtain ⟨p, b, ⟨n1, n2⟩, F, hF, d1, d2⟩ := H
  have E : ∀ c s, s ≠ 3 → g.1 c s = h.1 c s := fun c s hs => zQ3_0 Q hs
  have GD : ∀ k, zGd h k → zGd g k := fun k gd q => by
    rw [E _ _ (by decide)] at q
    obtain ⟨r, hr, e1, e2, e3⟩ := gd q
    exact ⟨r, hr, by rw [zQ3_R Q]; exact e1, by rw [E _ _ (by decide)]; exact e2, by rw [E _ _ (by decide), E _ _ (by decide), Q.1]; exact e3⟩
  refine ⟨fun x hx => ⟨GD _ (p x hx).1, fun h8 => zQ3_pr a2 b2 w1 (zS_val24 x hx) (c1 x (Nat.zero_le _) hx h8)⟩, fun r hr q => ?_, ⟨fun r hr q => ?_, fun r s hr hs q e => ?_⟩, F, hF, ?_, ?_⟩
  · rw [E _ _ (by decide)] at q
    rw [E _ 1 (by decide)]
    exact ⟨(b r hr q).1, fun f hf => ⟨GD _ ((b r hr q).2 f hf).1, fun hl => c2 r (Nat.zero_le _) hr (by rw [zQ3_0 Q1 (by decide)]; exact q) (by rw [zQ3_0 Q1 (by decide)]; exact hl) f hf⟩⟩
  · rw [E _ _ (by decide)] at q ⊢
    rw [E _ _ (by decide)]
    exact n1 r hr q
  · rw [E _ _ (by decide)] at q
    rw [E _ _ (by decide), E _ _ (by decide)] at e
    exact n2 r s hr hs q e
  · rw [E _ _ (by decide)]
    exact d1
  · rw [E _ _ (by decide), zlv_q (h := h) (h' := g) 60 (fun r _ => E _ _ (by decide))]
    exact d2
/-- nothing to settle -/
theorem zsP_id {h : zH} (T : zTl h) (n : ∀ j, j < 60 → ¬ zfb h j) : ∀ m i c, i + m = 60 → zsP m i c h = (c, h)
  | 0, _, _, _ => rfl
  | m + 1, i, c, hi => by
    have E : zs1 c h i = (c, h) := if_neg (fun w => n i (by omega) ((zfb_iff T (by omega)).mp w))
    have u : zsP (m + 1) i c h = zsP m (i + 1) (zs1 c h i).1 (zs1 c h i).2 := rfl
    rw [u, E]
    exact zsP_id T n m (i + 1) c (by omega)
theorem zsL_0 {h : zH} : ∀ m j, zsL m j (Int32.ofInt (Int.ofNat 0)) h = h
  | 0, _ => rfl
  | m + 1, j => if_pos rfl
theorem zsL_id {h : zH} (T : zTl h) (n : ∀ j, j < 60 → ¬ zfb h j) (m j : Nat) (c : Int32) (hc : c ≠ 0) : zsL (m + 1) j c h = h := by
  have u : zsL (m + 1) j c h = if c = 0 then h else zsL m (j + 1) (zsP 60 0 (Int32.ofInt (Int.ofNat 0)) h).1 (zsP 60 0 (Int32.ofInt (Int.ofNat 0)) h).2 := rfl
  rw [u, if_neg hc, zsP_id T n 60 0 _ rfl]
  exact zsL_0 m (j + 1)
theorem zsettle_id {h : zH} (hw : zWk h) (S : zSd h) : zsettle h = ztally h := by
  have e := ztally_TE hw.1
  have n : ∀ j, j < 60 → ¬ zfb (ztally h) j := fun j hj q => by
    have h1 := S j hj (by rw [← zTE_of e]; exact q.1)
    have h2 := q.2
    rw [zTE_ow e] at h2
    omega
  unfold zsettle
  exact zsL_id (zTl_tally hw.1) n 60 0 _ (by decide)
