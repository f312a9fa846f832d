/-! the invariant of heap and run -/
def zlv (h : zH) : Nat → Nat
  | 0 => 0
  | n + 1 => zlv h n + (if 0 ≤ h.1 (30 + 5 * n) 0 then 1 else 0)
/-- a holder out of Ash: a thing of Ash that it refers to has a proxy -/
def zpr (h : zH) (k : Nat) : Prop := h.1 k 0 = 116 → ∀ t, h.2.2.2 k 5 = some t → h.1 t 1 = 0 → ¬ h.1 t 3 = 0
def zCnt (h : zH) : Prop := ∃ F : Nat, F ≤ 1000000 ∧ h.1 2 5 = nI F ∧ h.1 2 4 = nI (F + zlv h 60)
def zNum (h : zH) : Prop := (∀ r, r < 60 → 0 ≤ h.1 (30 + 5 * r) 0 → h.1 (30 + 5 * r) 0 < h.1 2 4) ∧ ∀ r s, r < 60 → s < 60 → 0 ≤ h.1 (30 + 5 * r) 0 → h.1 (30 + 5 * r) 0 = h.1 (30 + 5 * s) 0 → r = s
def zFld (h : zH) : Prop := ∀ r, r < 60 → 0 ≤ h.1 (30 + 5 * r) 0 → (∃ l, l < 3 ∧ h.1 (30 + 5 * r) 1 = nI l) ∧ ∀ f, f < 3 → zGd h (32 + 5 * r + f) ∧ (h.1 (30 + 5 * r) 1 ≠ 0 → zpr h (32 + 5 * r + f))
def zGlb (h : zH) : Prop := ∀ i, i < 24 → zGd h (6 + i) ∧ (8 ≤ i → zpr h (6 + i))
def zHI (h : zH) : Prop := zGlb h ∧ zFld h ∧ zNum h ∧ zCnt h
def zHq (h h' : zH) : Prop := ∀ c, (c = 2 ∨ (6 ≤ c ∧ c < 330)) → h'.1 c = h.1 c ∧ h'.2.1 c = h.2.1 c ∧ h'.2.2.2 c = h.2.2.2 c
section ZHQ
variable {h h' : zH}
theorem zGd_q (q : zHq h h') {k : Nat} (h6 : 6 ≤ k) (h3 : k < 330) (g : zGd h k) : zGd h' k := by
  intro e
  obtain ⟨q1, q2, q3⟩ := q k (Or.inr ⟨h6, h3⟩)
  rw [q1] at e
  obtain ⟨r, hr, e1, e2, e3⟩ := g e
  have w := (q (30 + 5 * r) (Or.inr ⟨by omega, by omega⟩)).1
  exact ⟨r, hr, by rw [q3]; exact e1, by rw [w]; exact e2, by rw [w, q2, q1]; exact e3⟩
theorem zpr_q (hw : zWk h) (q : zHq h h') {k : Nat} (hk : zS k = (0, 6, 6)) (h6 : 6 ≤ k) (h3 : k < 330) (g : zpr h k) : zpr h' k := by
  intro e t ht e1
  obtain ⟨q1, q2, q3⟩ := q k (Or.inr ⟨h6, h3⟩)
  rw [q1] at e
  rw [q3] at ht
  obtain ⟨r, hr, rfl⟩ := hw.1.2.1 k hk t ht
  have w := (q (30 + 5 * r) (Or.inr ⟨by omega, by omega⟩)).1
  rw [w] at e1 ⊢
  exact g e _ ht e1
theorem zlv_q {h h' : zH} : ∀ n, (∀ r, r < n → h'.1 (30 + 5 * r) 0 = h.1 (30 + 5 * r) 0) → zlv h' n = zlv h n
  | 0, _ => rfl
  | n + 1, e => by
    unfold zlv
    rw [zlv_q n (fun r hr => e r (by omega)), e n (by omega)]
theorem zHI_q (hw : zWk h) (q : zHq h h') (H : zHI h) : zHI h' := by
  obtain ⟨a, b, ⟨c1, c2⟩, F, hF, d1, d2⟩ := H
  have t : ∀ r, r < 60 → h'.1 (30 + 5 * r) = h.1 (30 + 5 * r) := fun r hr => (q _ (Or.inr ⟨by omega, by omega⟩)).1
  have t2 := (q 2 (Or.inl rfl)).1
  refine ⟨fun i hi => ⟨zGd_q q (by omega) (by omega) (a i hi).1, fun h8 => zpr_q hw q (zS_val24 i hi) (by omega) (by omega) ((a i hi).2 h8)⟩, fun r hr => ?_, ⟨fun r hr => ?_, fun r s hr hs => ?_⟩, F, hF, ?_, ?_⟩
  · rw [t r hr]
    intro h0
    exact ⟨(b r hr h0).1, fun f hf => ⟨zGd_q q (by omega) (by omega) ((b r hr h0).2 f hf).1, fun hl => zpr_q hw q (zS_tval r hr f hf) (by omega) (by omega) (((b r hr h0).2 f hf).2 hl)⟩⟩
  · rw [t r hr, t2]
    exact c1 r hr
  · rw [t r hr, t s hs]
    exact c2 r s hr hs
  · rw [t2]
    exact d1
  · rw [t2, zlv_q (h := h) (h' := h') 60 (fun r hr => by rw [t r hr])]
    exact d2
end ZHQ
def zFn (h : zH) : Prop := (∀ f, f < 10 → (∃ l, l < 3 ∧ h.1 (751 + 3 * f) 0 = nI l) ∧ (∃ p, p ≤ 2 ∧ h.1 (751 + 3 * f) 1 = nI p) ∧ ∃ n, n ≤ 20 ∧ h.1 (751 + 3 * f) 4 = nI n) ∧ (∃ n, n ≤ 9 ∧ h.1 1 2 = nI n) ∧ h.1 1 13 ≠ -1005
def zSk (h : zH) (T s : Nat) : Prop := T ≤ 412 ∧ s ≤ T ∧ h.1 332 2 = nI s ∧ ∀ j, j < T → zGd h (335 + j)
def zCl (h : zH) (T d : Nat) : Prop := d ≤ 12 ∧ h.1 1 4 = nI d ∧ ∀ c, c < d → (∃ b, b ≤ T ∧ h.1 (781 + 6 * c) 5 = nI b) ∧ ∀ l, l < 4 → zGd h (783 + 6 * c + l)
def zRI (h : zH) (T s d : Nat) : Prop := zWk h ∧ zNn h ∧ zFn h ∧ zHI h ∧ zSk h T s ∧ zCl h T d
/-- who threw: as before, or a language -/
def zth13 (h h' : zH) : Prop := h'.1 1 13 = h.1 1 13 ∨ ∃ l, l < 3 ∧ h'.1 1 13 = nI l
theorem zth13_tr {h h1 h2 : zH} (a : zth13 h h1) (b : zth13 h1 h2) : zth13 h h2 := by
  rcases b with q | q
  · rcases a with w | ⟨l, hl, w⟩
    · exact Or.inl (q.trans w)
    · exact Or.inr ⟨l, hl, q.trans w⟩
  · exact Or.inr q
theorem znI3 {l : Nat} (hl : l < 3) : nI l ≠ -1005 := by
  have : l = 0 ∨ l = 1 ∨ l = 2 := by omega
  rcases this with rfl | rfl | rfl <;> decide
/-- what a run's steps keep -/
def zSt (h h' : zH) (n : Nat) : Prop := (∀ c, 750 < c → (c < 781 ∨ c = 854) → h'.1 c = h.1 c) ∧ h'.1 1 2 = h.1 1 2 ∧ h'.1 2 5 = h.1 2 5 ∧ (h.1 2 4).toInt ≤ (h'.1 2 4).toInt ∧ ∃ m, m ≤ n ∧ h'.2.1 1 8 = h.2.1 1 8 + Int64.ofNat m ∧ zth13 h h'
def zMk (h h' : zH) : Prop := h'.1 332 2 = h.1 332 2 ∧ h'.1 1 4 = h.1 1 4 ∧ ∀ c, c < 12 → h'.1 (781 + 6 * c) 5 = h.1 (781 + 6 * c) 5
/-- goodness is kept, and the outcome -/
def zGk (h h' : zH) : Prop := (∀ k, zS k = (0, 6, 6) → zGd h k → zGd h' k) ∧ h'.1 1 9 = h.1 1 9
section ZST
variable {h h' h1 h2 : zH}
theorem zSt_refl {n : Nat} : zSt h h n := ⟨fun _ _ _ => rfl, rfl, rfl, Int.le_refl _, 0, Nat.zero_le _, by rw [show Int64.ofNat 0 = 0 from rfl, Int64.add_zero], Or.inl rfl⟩
theorem zSt_tr {m n : Nat} (a : zSt h h1 m) (b : zSt h1 h2 n) : zSt h h2 (m + n) := by
  obtain ⟨a1, a2, a3, a4, x, hx, a5⟩ := a
  obtain ⟨b1, b2, b3, b4, y, hy, b5⟩ := b
  refine ⟨fun c h1 h2 => (b1 c h1 h2).trans (a1 c h1 h2), b2.trans a2, b3.trans a3, Int.le_trans a4 b4, x + y, by omega, ?_, zth13_tr a5.2 b5.2⟩
  rw [b5.1, a5.1, Int64.ofNat_add, Int64.add_assoc]
theorem zSt_le {m n : Nat} (a : zSt h h1 m) (e : m ≤ n) : zSt h h1 n := by
  obtain ⟨a1, a2, a3, a4, x, hx, a5⟩ := a
  exact ⟨a1, a2, a3, a4, x, by omega, a5⟩
theorem zMk_refl : zMk h h := ⟨rfl, rfl, fun _ _ => rfl⟩
theorem zMk_tr (a : zMk h h1) (b : zMk h1 h2) : zMk h h2 := ⟨b.1.trans a.1, b.2.1.trans a.2.1, fun c hc => (b.2.2 c hc).trans (a.2.2 c hc)⟩
theorem zGk_refl : zGk h h := ⟨fun _ _ g => g, rfl⟩
theorem zGk_tr (a : zGk h h1) (b : zGk h1 h2) : zGk h h2 := ⟨fun k hk g => b.1 k hk (a.1 k hk g), b.2.trans a.2⟩
theorem zFn_st {n : Nat} (a : zSt h h1 n) (H : zFn h) : zFn h1 := by
  obtain ⟨a1, a2, a3, a4, x, hx, a5, a6⟩ := a
  obtain ⟨b, c, d⟩ := H
  refine ⟨fun f hf => by rw [a1 _ (by omega) (by omega)]; exact b f hf, by rw [a2]; exact c, ?_⟩
  rcases a6 with q | ⟨l, hl, q⟩
  · rw [q]
    exact d
  · rw [q]
    exact znI3 hl
theorem zRI_keep {T s d n : Nat} (R : zRI h T s d) (hw : zWk h') (hn : zNn h') (hi : zHI h') (g : zGk h h') (st : zSt h h' n) (mk : zMk h h') : zRI h' T s d := by
  obtain ⟨-, -, rf, -, ⟨k1, k2, k3, k4⟩, l1, l2, l3⟩ := R
  refine ⟨hw, hn, zFn_st st rf, hi, ⟨k1, k2, mk.1.trans k3, fun j hj => g.1 _ (zS_cell j (by omega)) (k4 j hj)⟩, l1, mk.2.1.trans l2, fun c hc => ⟨?_, fun l hl => g.1 _ (zS_cval c (by omega) l hl) ((l3 c hc).2 l hl)⟩⟩
  rw [mk.2.2 c (by omega)]
  exact (l3 c hc).1
/-- a cell that is no value of the heap's -/
theorem zHq_off {k : Nat} (ho : zoff h h' k) (h2 : k ≠ 2) (h3 : k < 6 ∨ 330 ≤ k) : zHq h h' := fun c hc => by
  have e := ho c (by omega)
  exact ⟨e.1, e.2.1, e.2.2.2⟩
theorem zSt_off {k : Nat} (ho : zoff h h' k) (h1 : k ≠ 1) (h2 : k ≠ 2) (h3 : k ≤ 750 ∨ (781 ≤ k ∧ k ≠ 854)) : zSt h h' 0 := by
  refine ⟨fun c g1 g2 => (ho c (by omega)).1, by rw [(ho 1 (by omega)).1], by rw [(ho 2 (by omega)).1], by rw [(ho 2 (by omega)).1]; exact Int.le_refl _, 0, Nat.le_refl _, ?_, Or.inl (by rw [(ho 1 (by omega)).1])⟩
  rw [(ho 1 (by omega)).2.1, show Int64.ofNat 0 = 0 from rfl, Int64.add_zero]
theorem zMk_off {k : Nat} (ho : zoff h h' k) (h1 : k ≠ 1) (h2 : k ≠ 332) (h3 : ∀ c, c < 12 → k ≠ 781 + 6 * c) : zMk h h' :=
  ⟨by rw [(ho 332 (by omega)).1], by rw [(ho 1 (by omega)).1], fun c hc => by rw [(ho (781 + 6 * c) (fun q => h3 c hc q.symm)).1]⟩
theorem zGk_off {k : Nat} (ho : zoff h h' k) (h1 : k ≠ 1) (hv : ¬ zS k = (0, 6, 6)) (ht : ∀ r, r < 60 → 30 + 5 * r ≠ k) : zGk h h' :=
  ⟨fun k' hk' g => zGd_off ho ht (fun q => hv (q ▸ hk')) g, by rw [(ho 1 (by omega)).1]⟩
theorem zne_c {k c : Nat} (hk : zS k = (0, 6, 6)) (hc : c < 12) : k ≠ 781 + 6 * c := fun q => by rw [q, zS_call c hc] at hk; cases hk
theorem zne_f {k f : Nat} (hk : zS k = (0, 6, 6)) (hf : f < 10) : k ≠ 751 + 3 * f ∧ k ≠ 752 + 3 * f ∧ k ≠ 753 + 3 * f := ⟨fun q => (by rw [q, zS_fun f hf] at hk; cases hk), fun q => (by rw [q, zS_fops f hf] at hk; cases hk), fun q => (by rw [q, zS_fnum f hf] at hk; cases hk)⟩
theorem zne_o {k c a b n : Nat} (hk : zS k = (0, 6, 6)) (hc : zS c = (a, b, n)) (h : ¬ (a = 0 ∧ b = 6)) : k ≠ c := fun q => by
  rw [q, hc] at hk
  injection hk with e1 e2
  injection e2 with e3 e4
  exact h ⟨e1, e3⟩
theorem zne_fr {k : Nat} (hk : zS k = (0, 6, 6)) : k ≤ 750 ∨ (781 ≤ k ∧ k ≠ 854) := by
  by_cases h1 : k ≤ 750
  · exact Or.inl h1
  · by_cases h2 : 781 ≤ k
    · exact Or.inr ⟨h2, zne_o hk zS_854 (by omega)⟩
    · exfalso
      have h3 := zne_f (f := (k - 751) / 3) hk (by omega)
      omega
theorem zGk_vw {k : Nat} (hk : zS k = (0, 6, 6)) (v : zVW h k h') : zGk h h' := by
  refine ⟨fun k' hk' g => ?_, by rw [(v.1 1 (fun q => zne_o hk zS_1 (by omega) q.symm)).1]⟩
  by_cases e : k' = k
  · subst e
    exact v.2.2.2
  · exact zGd_off v.1 (fun r hr => zvt hk hr) e g
theorem zSt_vw {k : Nat} (hk : zS k = (0, 6, 6)) (v : zVW h k h') : zSt h h' 0 := zSt_off v.1 (zne_o hk zS_1 (by omega)) (zne_o hk zS_2 (by omega)) (zne_fr hk)
theorem zMk_vw {k : Nat} (hk : zS k = (0, 6, 6)) (v : zVW h k h') : zMk h h' := zMk_off v.1 (zne_o hk zS_1 (by omega)) (zne_o hk zS_332 (by omega)) (fun c hc => zne_c hk hc)
theorem zRI_vw {T s d k : Nat} (R : zRI h T s d) (hk : zS k = (0, 6, 6)) (h3 : 330 ≤ k) (v : zVW h k h') : zRI h' T s d :=
  zRI_keep R v.2.1 v.2.2.1 (zHI_q R.1 (zHq_off v.1 (by omega) (Or.inr h3)) R.2.2.2.1) (zGk_vw hk v) (zSt_vw hk v) (zMk_vw hk v)
/-! the machine's own slots -/
theorem zGd_I {k c j : Nat} {x : Int32} (hc : ∀ r, r < 60 → 30 + 5 * r ≠ c) (hne : ¬ (k = c ∧ (j = 0 ∨ j = 2))) (g : zGd h k) : zGd (zupI h c j x) k := by
  intro e
  rw [zupI_ne (fun q => hne ⟨q.1, Or.inl q.2.symm⟩)] at e
  obtain ⟨r, hr, e1, e2, e3⟩ := g e
  refine ⟨r, hr, e1, ?_, ?_⟩
  · rw [zupI_ne (fun q => hc r hr q.1)]
    exact e2
  · rw [zupI_ne (fun q => hc r hr q.1), zupI_ne (fun q => hne ⟨q.1, Or.inr q.2.symm⟩)]
    exact e3
theorem zt01 : ∀ r, r < 60 → 30 + 5 * r ≠ 1 := fun r _ q => by omega
theorem zv1 : ∀ k, zS k = (0, 6, 6) → k ≠ 1 := fun k hk => zne_o hk zS_1 (by omega)
theorem zGk_I1 {j : Nat} {x : Int32} (h9 : j ≠ 9) : zGk h (zupI h 1 j x) := ⟨fun k hk g => zGd_I zt01 (fun q => zv1 k hk q.1) g, zupI_ne (fun q => h9 q.2.symm)⟩
theorem zSt_I1 {j : Nat} {x : Int32} (h2 : j ≠ 2 ∧ j ≠ 13) : zSt h (zupI h 1 j x) 0 := ⟨fun c g1 g2 => funext fun j' => zupI_ne (fun q => by omega), zupI_ne (fun q => h2.1 q.2.symm), zupI_ne (fun q => by omega), by rw [zupI_ne (fun q => by omega)]; exact Int.le_refl _, 0, Nat.le_refl _, by rw [show Int64.ofNat 0 = 0 from rfl, Int64.add_zero]; rfl, Or.inl (zupI_ne (fun q => h2.2 q.2.symm))⟩
theorem zSt_13 {l : Nat} (hl : l < 3) : zSt h (zupI h 1 13 (nI l)) 0 := ⟨fun c g1 g2 => funext fun j' => zupI_ne (fun q => by omega), zupI_ne (fun q => by omega), zupI_ne (fun q => by omega), by rw [zupI_ne (fun q => by omega)]; exact Int.le_refl _, 0, Nat.le_refl _, by rw [show Int64.ofNat 0 = 0 from rfl, Int64.add_zero]; rfl, Or.inr ⟨l, hl, zupI_at⟩⟩
theorem zMk_I1 {j : Nat} {x : Int32} (h4 : j ≠ 4) : zMk h (zupI h 1 j x) := ⟨zupI_ne (fun q => by omega), zupI_ne (fun q => h4 q.2.symm), fun c hc => zupI_ne (fun q => by omega)⟩
theorem zHq_1 {j : Nat} {x : Int32} : zHq h (zupI h 1 j x) := zHq_off (zoffI) (by decide) (Or.inl (by decide))
theorem zRI_I1 {T s d j : Nat} {x : Int32} (R : zRI h T s d) (h2 : j ≠ 2 ∧ j ≠ 13) (h4 : j ≠ 4) (h9 : j ≠ 9) : zRI (zupI h 1 j x) T s d :=
  zRI_keep R (zK_I R.1 (zTok_m (fun e => absurd e h9))) R.2.1 (zHI_q R.1 zHq_1 R.2.2.2.1) (zGk_I1 h9) (zSt_I1 h2) (zMk_I1 h4)
theorem zRI_13 {T s d l : Nat} (R : zRI h T s d) (hl : l < 3) : zRI (zupI h 1 13 (nI l)) T s d :=
  zRI_keep R (zK_I R.1 (zTok_m (fun e => absurd e (by decide)))) R.2.1 (zHI_q R.1 zHq_1 R.2.2.2.1) (zGk_I1 (by decide)) (zSt_13 hl) (zMk_I1 (by decide))
/-- the outcome itself -/
theorem zRI_out {T s d : Nat} {x : Int32} (R : zRI h T s d) (hx : zCh x) : zRI (zupI h 1 9 x) T s d := by
  obtain ⟨hw, hn, hf, hi, ⟨k1, k2, k3, k4⟩, l1, l2, l3⟩ := R
  have st : zSt h (zupI h 1 9 x) 0 := zSt_I1 (by decide)
  refine ⟨zK_I hw (zTok_m (fun _ => hx)), hn, zFn_st st hf, zHI_q hw zHq_1 hi, ⟨k1, k2, (zMk_I1 (by decide)).1.trans k3, fun j hj => zGd_I zt01 (fun q => by omega) (k4 j hj)⟩, l1, (zMk_I1 (by decide)).2.1.trans l2, fun c hc => ⟨?_, fun l hl => zGd_I zt01 (fun q => by omega) ((l3 c hc).2 l hl)⟩⟩
  rw [(zMk_I1 (by decide)).2.2 c (by omega)]
  exact (l3 c hc).1
theorem zGd_J {k c j : Nat} {x : Int64} (hne : ¬ (k = c ∧ j = 3)) (g : zGd h k) : zGd (zupJ h c j x) k := by
  intro e
  obtain ⟨r, hr, e1, e2, e3⟩ := g e
  refine ⟨r, hr, e1, e2, ?_⟩
  rw [zupJ_ne (fun q => hne ⟨q.1, q.2.symm⟩)]
  exact e3
theorem zHq_J {j : Nat} {x : Int64} : zHq h (zupJ h 1 j x) := zHq_off (zoffJ) (by decide) (Or.inl (by decide))
theorem zRI_J1 {T s d j : Nat} {x : Int64} (R : zRI h T s d) : zRI (zupJ h 1 j x) T s d := by
  obtain ⟨hw, hn, hf, hi, ⟨k1, k2, k3, k4⟩, l1, l2, l3⟩ := R
  exact ⟨zK_J hw, hn, hf, zHI_q hw zHq_J hi, ⟨k1, k2, k3, fun j hj => zGd_J (fun q => by omega) (k4 j hj)⟩, l1, l2, fun c hc => ⟨(l3 c hc).1, fun l hl => zGd_J (fun q => by omega) ((l3 c hc).2 l hl)⟩⟩
theorem zGk_J1 {j : Nat} {x : Int64} : zGk h (zupJ h 1 j x) := ⟨fun k hk g => zGd_J (fun q => zv1 k hk q.1) g, rfl⟩
theorem zSt_J1 {j : Nat} {x : Int64} (h8 : j ≠ 8) : zSt h (zupJ h 1 j x) 0 := ⟨fun _ _ _ => rfl, rfl, rfl, Int.le_refl _, 0, Nat.le_refl _, by rw [zupJ_ne (fun q => h8 q.2.symm), show Int64.ofNat 0 = 0 from rfl, Int64.add_zero], Or.inl rfl⟩
theorem zMk_J1 {j : Nat} {x : Int64} : zMk h (zupJ h 1 j x) := ⟨rfl, rfl, fun _ _ => rfl⟩
/-! crossing -/
theorem zcirH_ri {T s d : Nat} {a b : Int32} (R : zRI h T s d) : zRI (zcirH h a b) T s d := by
  unfold zcirH
  split
  · exact R
  · exact zRI_J1 R
theorem zcirH_st {a b : Int32} : zSt h (zcirH h a b) 1 := by
  unfold zcirH
  split
  · exact zSt_refl
  · exact ⟨fun _ _ _ => rfl, rfl, rfl, Int.le_refl _, 1, Nat.le_refl _, zupJ_at, Or.inl rfl⟩
theorem zcirH_gk {a b : Int32} : zGk h (zcirH h a b) := by
  unfold zcirH
  split
  · exact zGk_refl
  · exact zGk_J1
theorem zcirH_mk {a b : Int32} : zMk h (zcirH h a b) := by
  unfold zcirH
  split
  · exact zMk_refl
  · exact zMk_J1
/-- a value crosses in a run -/
theorem zRI_cir {T s d k : Nat} {a b : Int32} (R : zRI h T s d) (hk : zS k = (0, 6, 6)) (h3 : 330 ≤ k) (g : zGd h k) : zRI (zcir h k a b).2 T s d ∧ zSt h (zcir h k a b).2 1 ∧ zGk h (zcir h k a b).2 ∧ zMk h (zcir h k a b).2 ∧ zGd (zcir h k a b).2 k := by
  have R1 := zcirH_ri (a := a) (b := b) R
  have v : zVW (zcirH h a b) k (zcir h k a b).2 := zV_cr R1.1 R1.2.1 hk (zcirH_gk.1 k hk g)
  exact ⟨zRI_vw R1 hk h3 v, zSt_tr zcirH_st (zSt_vw hk v), zGk_tr zcirH_gk (zGk_vw hk v), zMk_tr zcirH_mk (zMk_vw hk v), v.2.2.2⟩
end ZST
