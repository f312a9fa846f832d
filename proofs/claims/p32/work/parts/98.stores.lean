/-! the heap's stores and a new thing: what they keep -/
def zHIx (h : zH) (X : Nat) : Prop := (∀ i, i < 24 → zGd h (6 + i) ∧ (8 ≤ i → 6 + i ≠ X → zpr h (6 + i))) ∧ (∀ r, r < 60 → 0 ≤ h.1 (30 + 5 * r) 0 → (∃ l, l < 3 ∧ h.1 (30 + 5 * r) 1 = nI l) ∧ ∀ f, f < 3 → zGd h (32 + 5 * r + f) ∧ (h.1 (30 + 5 * r) 1 ≠ 0 → 32 + 5 * r + f ≠ X → zpr h (32 + 5 * r + f))) ∧ zNum h ∧ zCnt h
section ZST2
variable {h h' : zH} {T s d : Nat}
theorem zpr_off {k X : Nat} (hw : zWk h) (ho : zoff h h' X) (hX : ∀ r, r < 60 → 30 + 5 * r ≠ X) (hk : zS k = (0, 6, 6)) (hne : k ≠ X) (g : zpr h k) : zpr h' k := by
  intro e t ht e1
  have q := ho k hne
  rw [q.1] at e
  rw [q.2.2.2] at ht
  obtain ⟨r, hr, rfl⟩ := hw.1.2.1 k hk t ht
  have w := (ho _ (hX r hr)).1
  rw [w] at e1 ⊢
  exact g e _ ht e1
theorem zHIx_vw {X : Nat} (hw : zWk h) (H : zHI h) (hX : zS X = (0, 6, 6)) (v : zVW h X h') : zHIx h' X := by
  obtain ⟨a, b, ⟨c1, c2⟩, F, hF, d1, d2⟩ := H
  have g := zGk_vw hX v
  have t : ∀ r, r < 60 → h'.1 (30 + 5 * r) = h.1 (30 + 5 * r) := fun r hr => (v.1 _ (zvt hX hr)).1
  have t2 := (v.1 2 (fun q => zne_o hX zS_2 (by omega) q.symm)).1
  refine ⟨fun i hi => ⟨g.1 _ (zS_val24 i hi) (a i hi).1, fun h8 hne => zpr_off hw v.1 (fun r hr => zvt hX hr) (zS_val24 i hi) hne ((a i hi).2 h8)⟩, fun r hr => ?_, ⟨fun r hr => ?_, fun r s hr hs => ?_⟩, F, hF, ?_, ?_⟩
  · rw [t r hr]
    intro h0
    exact ⟨(b r hr h0).1, fun f hf => ⟨g.1 _ (zS_tval r hr f hf) ((b r hr h0).2 f hf).1, fun hl hne => zpr_off hw v.1 (fun r hr => zvt hX hr) (zS_tval r hr f hf) hne (((b r hr h0).2 f hf).2 hl)⟩⟩
  · rw [t r hr, t2]
    exact c1 r hr
  · rw [t r hr, t s hs]
    exact c2 r s hr hs
  · rw [t2]
    exact d1
  · rw [t2, zlv_q (h := h) (h' := h') 60 (fun r hr => by rw [t r hr])]
    exact d2
/-- X holds out of Ash -/
def zOut (h : zH) (X : Nat) : Prop := (∃ i, 8 ≤ i ∧ i < 24 ∧ 6 + i = X) ∨ ∃ r f, r < 60 ∧ f < 3 ∧ h.1 (30 + 5 * r) 1 ≠ 0 ∧ 32 + 5 * r + f = X
theorem zHI_x {X : Nat} (H : zHIx h X) (p : zOut h X → zpr h X) : zHI h := by
  obtain ⟨a, b, c⟩ := H
  refine ⟨fun i hi => ⟨(a i hi).1, fun h8 => ?_⟩, fun r hr h0 => ⟨(b r hr h0).1, fun f hf => ⟨((b r hr h0).2 f hf).1, fun hl => ?_⟩⟩, c⟩
  · by_cases e : 6 + i = X
    · rw [e]
      exact p (Or.inl ⟨i, h8, hi, e⟩)
    · exact (a i hi).2 h8 e
  · by_cases e : 32 + 5 * r + f = X
    · rw [e]
      exact p (Or.inr ⟨r, f, hr, hf, hl, e⟩)
    · exact ((b r hr h0).2 f hf).2 hl e
theorem zGd_T {k r j : Nat} {x : Int32} (hk : zS k = (0, 6, 6)) (hr : r < 60) (hj : j ≠ 0) (g : zGd h k) : zGd (zupI h (30 + 5 * r) j x) k := by
  intro e
  rw [zupI_ne (fun q => zvt hk hr q.1.symm)] at e
  obtain ⟨r', hr', e1, e2, e3⟩ := g e
  refine ⟨r', hr', e1, ?_, ?_⟩
  · rw [zupI_ne (fun q => hj q.2.symm)]
    exact e2
  · rw [zupI_ne (fun q => hj q.2.symm), zupI_ne (fun q => zvt hk hr q.1.symm)]
    exact e3
theorem zpr_T {k r : Nat} (hk : zS k = (0, 6, 6)) (hr : r < 60) (g : zpr h k) : zpr (zupI h (30 + 5 * r) 3 (Int32.ofInt (Int.ofNat 1))) k := by
  intro e t ht e1
  rw [zupI_ne (fun q => zvt hk hr q.1.symm)] at e
  rw [zupI_ne (fun q => by cases q.2)] at e1
  by_cases q : t = 30 + 5 * r
  · subst q
    rw [zupI_at]
    decide
  · rw [zupI_ne (fun w => q w.1)]
    exact g e t ht e1
theorem zHI_T {X r : Nat} (hr : r < 60) (H : zHIx h X) (p : zpr (zupI h (30 + 5 * r) 3 (Int32.ofInt (Int.ofNat 1))) X) : zHI (zupI h (30 + 5 * r) 3 (Int32.ofInt (Int.ofNat 1))) := by
  obtain ⟨a, b, ⟨c1, c2⟩, F, hF, d1, d2⟩ := H
  have t : ∀ r' j, j ≠ 3 → (zupI h (30 + 5 * r) 3 (Int32.ofInt (Int.ofNat 1))).1 (30 + 5 * r') j = h.1 (30 + 5 * r') j := fun r' j hj => zupI_ne (fun q => hj q.2)
  have t2 : ∀ j, (zupI h (30 + 5 * r) 3 (Int32.ofInt (Int.ofNat 1))).1 2 j = h.1 2 j := fun j => zupI_ne (fun q => by omega)
  refine zHI_x (X := X) ⟨fun i hi => ⟨zGd_T (zS_val24 i hi) hr (by decide) (a i hi).1, fun h8 hne => zpr_T (zS_val24 i hi) hr ((a i hi).2 h8 hne)⟩, fun r' hr' => ?_, ⟨fun r' hr' => ?_, fun r' s hr' hs => ?_⟩, F, hF, ?_, ?_⟩ (fun _ => p)
  · rw [t r' 0 (by decide), t r' 1 (by decide)]
    intro h0
    exact ⟨(b r' hr' h0).1, fun f hf => ⟨zGd_T (zS_tval r' hr' f hf) hr (by decide) ((b r' hr' h0).2 f hf).1, fun hl hne => zpr_T (zS_tval r' hr' f hf) hr (((b r' hr' h0).2 f hf).2 hl hne)⟩⟩
  · rw [t r' 0 (by decide), t2]
    exact c1 r' hr'
  · rw [t r' 0 (by decide), t s 0 (by decide)]
    exact c2 r' s hr' hs
  · rw [t2]
    exact d1
  · rw [t2, zlv_q (h := h) (h' := zupI h (30 + 5 * r) 3 (Int32.ofInt (Int.ofNat 1))) 60 (fun r' hr' => t r' 0 (by decide))]
    exact d2
theorem znote_c (hw : zWk h) {l : Int32} {k : Nat} (hk : zS k = (0, 6, 6)) : znoteP h l k = h ∨ ∃ r, r < 60 ∧ znoteP h l k = zupI h (30 + 5 * r) 3 (Int32.ofInt (Int.ofNat 1)) := by
  unfold znoteP
  split
  · cases hq : h.2.2.2 k 5 with
    | none => exact Or.inl rfl
    | some t =>
      obtain ⟨r, hr, rfl⟩ := hw.1.2.1 k hk t hq
      show (if h.1 (30 + 5 * r) 1 = 0 then zupI h (30 + 5 * r) 3 (Int32.ofInt (Int.ofNat 1)) else h) = h ∨ ∃ r', r' < 60 ∧ (if h.1 (30 + 5 * r) 1 = 0 then zupI h (30 + 5 * r) 3 (Int32.ofInt (Int.ofNat 1)) else h) = _
      split
      · exact Or.inr ⟨r, hr, rfl⟩
      · exact Or.inl rfl
  · exact Or.inl rfl
theorem zHI_note {X k : Nat} {l : Int32} (hw : zWk h) (hk : zS k = (0, 6, 6)) (H : zHIx h X) (e0 : h.1 X 0 = h.1 k 0) (e5 : h.2.2.2 X 5 = h.2.2.2 k 5) (hX : zS X = (0, 6, 6)) (hl : l = 0 → ¬ zOut h X) : zHI (znoteP h l k) := by
  unfold znoteP
  split
  · rename_i hc
    cases hq : h.2.2.2 k 5 with
    | none => exact zHI_x H (fun _ _ t ht => by rw [e5, hq] at ht; cases ht)
    | some t =>
      obtain ⟨r, hr, rfl⟩ := hw.1.2.1 k hk t hq
      show zHI (if h.1 (30 + 5 * r) 1 = 0 then zupI h (30 + 5 * r) 3 (Int32.ofInt (Int.ofNat 1)) else h)
      split
      · refine zHI_T hr H (fun e t ht e1 => ?_)
        have ht : h.2.2.2 X 5 = some t := ht
        rw [e5, hq] at ht
        injection ht with ht
        subst ht
        rw [zupI_at]
        decide
      · rename_i hn
        refine zHI_x H (fun _ _ t ht e1 => ?_)
        rw [e5, hq] at ht
        injection ht with ht
        subst ht
        exact absurd e1 hn
  · rename_i hc
    refine zHI_x H (fun ho e t ht e1 => ?_)
    refine absurd ⟨fun q => hl q ho, ?_⟩ hc
    unfold zisRef
    rw [← e0, ← e5, e, ht]
    rfl
theorem zGk_T {r : Nat} (hr : r < 60) : zGk h (zupI h (30 + 5 * r) 3 (Int32.ofInt (Int.ofNat 1))) := ⟨fun k hk g => zGd_T hk hr (by decide) g, zupI_ne (fun q => by omega)⟩
theorem zSt_T {r : Nat} (hr : r < 60) {x : Int32} : zSt h (zupI h (30 + 5 * r) 3 x) 0 := zSt_off zoffI (by omega) (by omega) (Or.inl (by omega))
theorem zMk_T {r : Nat} (hr : r < 60) {x : Int32} : zMk h (zupI h (30 + 5 * r) 3 x) := zMk_off zoffI (by omega) (by omega) (fun c hc q => by omega)
/-- a store, then the proxy -/
theorem zstore {X k : Nat} {l : Int32} (hw : zWk h) (hn : zNn h) (H : zHI h) (hk : zS k = (0, 6, 6)) (hX : zS X = (0, 6, 6)) (hne : k ≠ X) (g : zGd h k) (hl : l = 0 → ¬ zOut (zcp h X k) X) :
    zWk (znoteP (zcp h X k) l k) ∧ zNn (znoteP (zcp h X k) l k) ∧ zHI (znoteP (zcp h X k) l k) ∧ zGk h (znoteP (zcp h X k) l k) ∧ zSt h (znoteP (zcp h X k) l k) 0 ∧ zMk h (znoteP (zcp h X k) l k) := by
  have v := zV_cp hw hn hX hk g
  have hw1 := v.2.1
  have e := v.1 k hne
  have HI := zHI_note (l := l) hw1 hk (zHIx_vw hw H hX v) (by rw [zcp_k0, e.1]) (by rw [zcp_k5, e.2.2.2]) hX hl
  refine ⟨zK_noteP hw1 hk, ?_, HI, ?_⟩
  · rcases znote_c (l := l) hw1 hk with q | ⟨r, hr, q⟩
    · rw [q]
      exact v.2.2.1
    · rw [q]
      exact v.2.2.1
  · rcases znote_c (l := l) hw1 hk with q | ⟨r, hr, q⟩
    · rw [q]
      exact ⟨zGk_vw hX v, zSt_vw hX v, zMk_vw hX v⟩
    · rw [q]
      exact ⟨zGk_tr (zGk_vw hX v) (zGk_T hr), zSt_tr (zSt_vw hX v) (zSt_T hr), zMk_tr (zMk_vw hX v) (zMk_T hr)⟩
theorem zstG_ok {l g k : Nat} (hw : zWk h) (hn : zNn h) (H : zHI h) (hl : l < 3) (hg : g < 8) (hk : zS k = (0, 6, 6)) (h3 : 330 ≤ k) (gd : zGd h k) :
    zWk (zstG h l g k) ∧ zNn (zstG h l g k) ∧ zHI (zstG h l g k) ∧ zGk h (zstG h l g k) ∧ zSt h (zstG h l g k) 0 ∧ zMk h (zstG h l g k) := by
  refine zstore hw hn H hk (zS_val24 (8 * l + g) (by omega)) (by omega) gd (fun q => ?_)
  have l0 : l = 0 := (nI_eq (by omega) (by decide)).mp q
  rintro (⟨i, h1, h2, h4⟩ | ⟨r, f, h1, h2, h4, h5⟩)
  · omega
  · omega
theorem zstF_ok {r f k : Nat} (hw : zWk h) (hn : zNn h) (H : zHI h) (hr : r < 60) (hf : f < 3) (hk : zS k = (0, 6, 6)) (h3 : 330 ≤ k) (gd : zGd h k) :
    zWk (zstF h r f k) ∧ zNn (zstF h r f k) ∧ zHI (zstF h r f k) ∧ zGk h (zstF h r f k) ∧ zSt h (zstF h r f k) 0 ∧ zMk h (zstF h r f k) := by
  refine zstore hw hn H hk (zS_tval r hr f hf) (by omega) gd (fun q => ?_)
  rintro (⟨i, h1, h2, h4⟩ | ⟨r', f', h1, h2, h4, h5⟩)
  · omega
  · have e : r' = r := by omega
    subst e
    exact h4 q
theorem zRI_stG {l g k : Nat} (R : zRI h T s d) (hl : l < 3) (hg : g < 8) (hk : zS k = (0, 6, 6)) (h3 : 330 ≤ k) (gd : zGd h k) : zRI (zstG h l g k) T s d ∧ zSt h (zstG h l g k) 0 ∧ zGk h (zstG h l g k) := by
  obtain ⟨a, b, c, e, f, g⟩ := zstG_ok R.1 R.2.1 R.2.2.2.1 hl hg hk h3 gd
  exact ⟨zRI_keep R a b c e f g, f, e⟩
theorem zRI_stF {r f k : Nat} (R : zRI h T s d) (hr : r < 60) (hf : f < 3) (hk : zS k = (0, 6, 6)) (h3 : 330 ≤ k) (gd : zGd h k) : zRI (zstF h r f k) T s d ∧ zSt h (zstF h r f k) 0 ∧ zGk h (zstF h r f k) := by
  obtain ⟨a, b, c, e, f, g⟩ := zstF_ok R.1 R.2.1 R.2.2.2.1 hr hf hk h3 gd
  exact ⟨zRI_keep R a b c e f g, f, e⟩
end ZST2
