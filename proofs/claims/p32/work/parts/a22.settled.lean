/-! what settle leaves -/
/-- of the heap, settle changes the noted counts, what is there and how many are freed -/
def zSe (h h' : zH) : Prop := h'.2 = h.2 ∧ (∀ c s, ¬ (zTh c ∧ (s = 4 ∨ s = 0)) → ¬ (c = 2 ∧ s = 5) → h'.1 c s = h.1 c s) ∧ ∀ r, r < 60 → h'.1 (30 + 5 * r) 0 = h.1 (30 + 5 * r) 0 ∨ h'.1 (30 + 5 * r) 0 < 0
theorem zSe_refl {h : zH} : zSe h h := ⟨rfl, fun _ _ _ _ => rfl, fun _ _ => Or.inl rfl⟩
theorem zSe_tr {h h1 h2 : zH} (a : zSe h h1) (b : zSe h1 h2) : zSe h h2 := by
  refine ⟨b.1.trans a.1, fun c s p q => (b.2.1 c s p q).trans (a.2.1 c s p q), fun r hr => ?_⟩
  rcases b.2.2 r hr with e | e
  · rw [e]
    exact a.2.2 r hr
  · exact Or.inr e
theorem zSe_TE {g h : zH} (e : zTE g h) : zSe h g := ⟨e.1, fun c s p _ => e.2 c s (fun q => p ⟨q.2, Or.inl q.1⟩), fun r _ => Or.inl (zTE_0 e (by decide))⟩
theorem zTh_ge {c : Nat} (h : zTh c) : 30 ≤ c ∧ c < 330 := by
  obtain ⟨r, hr, rfl⟩ := h
  omega
/-- may be freed -/
def zfb (h : zH) (i : Nat) : Prop := zisOf h (30 + 5 * i) 0 = true ∧ zow h (30 + 5 * i) = 0
theorem zkT_at {h : zH} {t j : Nat} (e : 1 ≤ zkT1 h t j) : ∀ m i, i ≤ j → j < i + m → 1 ≤ zkT h t m i
  | 0, i, h1, h2 => by omega
  | m + 1, i, h1, h2 => by
    have c : zkT h t (m + 1) i = zkT1 h t i + zkT h t m (i + 1) := rfl
    by_cases q : i = j
    · subst q
      omega
    · have := zkT_at e m (i + 1) (by omega) (by omega)
      omega
theorem zkF_at {h : zH} {r t f : Nat} (e : zn1 h (32 + 5 * r + f) t = 1) : ∀ m i, i ≤ f → f < i + m → 1 ≤ zkF h r t m i
  | 0, i, h1, h2 => by omega
  | m + 1, i, h1, h2 => by
    have c : zkF h r t (m + 1) i = zn1 h (32 + 5 * r + i) t + zkF h r t m (i + 1) := rfl
    by_cases q : i = f
    · subst q
      omega
    · have := zkF_at e m (i + 1) (by omega) (by omega)
      omega
theorem zow_P {h : zH} {t : Nat} (h1 : h.1 t 1 = 0) (h3 : ¬ h.1 t 3 = 0) : 1 ≤ zow h t := by
  unfold zow
  rw [if_pos ⟨h1, h3⟩]
  omega
theorem zow_F {h : zH} {i r f : Nat} (hi : i < 60) (hf : f < 3) (ho : zisOf h (30 + 5 * i) 0 = true) (e : h.1 (32 + 5 * i + f) 0 = 116) (e1 : h.2.2.2 (32 + 5 * i + f) 5 = some (30 + 5 * r)) : 1 ≤ zow h (30 + 5 * r) := by
  have a : zn1 h (32 + 5 * i + f) (30 + 5 * r) = 1 := by
    unfold zn1
    rw [if_pos ⟨zgd_ref e e1, e1⟩]
  have b := zkF_at a 3 0 (Nat.zero_le _) (by omega)
  have c : 1 ≤ zkT1 h (30 + 5 * r) i := by
    unfold zkT1
    rw [if_pos ho]
    exact b
  have d := zkT_at c 60 0 (Nat.zero_le _) (by omega)
  unfold zow zkN
  omega
theorem zisOf_i {h : zH} {t : Nat} {w : Int32} : zisOf h t w = true ↔ 0 ≤ h.1 t 0 ∧ h.1 t 1 = w := by
  unfold zisOf
  rw [Bool.and_eq_true, decide_eq_true_iff, decide_eq_true_iff]
/-- to what has no count nothing that is there refers -/
theorem zfb_G {h : zH} (H : zHI h) {i x : Nat} (b : zfb h i) (hx : x < 24) (e : h.1 (6 + x) 0 = 116) : h.2.2.2 (6 + x) 5 ≠ some (30 + 5 * i) := by
  intro e1
  have hz := b.2
  by_cases q : x < 8
  · have := zow_G q e e1
    omega
  · have l0 := (zisOf_i.mp b.1).2
    have := zow_P l0 ((H.1 x hx).2 (by omega) e _ e1 l0)
    omega
theorem zfb_F {h : zH} (H : zHI h) {i j f : Nat} (b : zfb h i) (hj : j < 60) (h0 : 0 ≤ h.1 (30 + 5 * j) 0) (hf : f < 3) (e : h.1 (32 + 5 * j + f) 0 = 116) : h.2.2.2 (32 + 5 * j + f) 5 ≠ some (30 + 5 * i) := by
  intro e1
  have hz := b.2
  by_cases q : h.1 (30 + 5 * j) 1 = 0
  · have := zow_F hj hf (zisOf_i.mpr ⟨h0, q⟩) e e1
    omega
  · have l0 := (zisOf_i.mp b.1).2
    have := zow_P l0 (((H.2.1 j hj h0).2 f hf).2 q e _ e1 l0)
    omega
/-- a heap in which a thing's room is emptied, for the counts -/
def zFr (h h' : zH) (i : Nat) : Prop := h'.2 = h.2 ∧ h'.1 (30 + 5 * i) 0 = Int32.ofInt (Int.negSucc 0) ∧ h'.1 2 5 = h.1 2 5 + 1 ∧ ∀ c s, ¬ (s = 4 ∧ zTh c) → ¬ (c = 30 + 5 * i ∧ s = 0) → ¬ (c = 2 ∧ s = 5) → h'.1 c s = h.1 c s
theorem zFr.two {h h' : zH} {i : Nat} (A : zFr h h' i) : h'.2 = h.2 := A.1
theorem zFr.at0 {h h' : zH} {i : Nat} (A : zFr h h' i) : h'.1 (30 + 5 * i) 0 = Int32.ofInt (Int.negSucc 0) := A.2.1
theorem zFr.fr {h h' : zH} {i : Nat} (A : zFr h h' i) : h'.1 2 5 = h.1 2 5 + 1 := A.2.2.1
theorem zFr.off {h h' : zH} {i : Nat} (A : zFr h h' i) : ∀ c s, ¬ (s = 4 ∧ zTh c) → ¬ (c = 30 + 5 * i ∧ s = 0) → ¬ (c = 2 ∧ s = 5) → h'.1 c s = h.1 c s := A.2.2.2
section ZFR
variable {h h' : zH} {i : Nat}
theorem zFr_val (A : zFr h h' i) {k s : Nat} (hi : i < 60) (hk : zS k = (0, 6, 6)) (h6 : 6 ≤ k) : h'.1 k s = h.1 k s :=
  A.off k s (fun q => by have e := zTh_S q.2; rw [hk] at e; cases e) (fun q => zvt hk hi q.1.symm) (fun q => by omega)
theorem zFr_th (A : zFr h h' i) {r s : Nat} (h4 : s ≠ 4) (hs : ¬ (r = i ∧ s = 0)) : h'.1 (30 + 5 * r) s = h.1 (30 + 5 * r) s :=
  A.off _ s (fun q => h4 q.1) (fun q => hs ⟨by omega, q.2⟩) (fun q => by omega)
theorem zFr_n1 (A : zFr h h' i) (hi : i < 60) {k t : Nat} (hk : zS k = (0, 6, 6)) (h6 : 6 ≤ k) : zn1 h' k t = zn1 h k t := by
  unfold zn1 zisRef
  rw [zFr_val A hi hk h6, show h'.2.2.2 = h.2.2.2 from congrArg (fun z => z.2.2) A.two]
theorem zFr_kG (A : zFr h h' i) (hi : i < 60) {t : Nat} : ∀ m j, j + m = 8 → zkG h' t m j = zkG h t m j
  | 0, _, _ => rfl
  | m + 1, j, e => by
    unfold zkG
    rw [zFr_n1 A hi (zS_val24 j (by omega)) (by omega), zFr_kG A hi m (j + 1) (by omega)]
theorem zFr_kF (A : zFr h h' i) (hi : i < 60) {r t : Nat} (hr : r < 60) : ∀ m j, j + m = 3 → zkF h' r t m j = zkF h r t m j
  | 0, _, _ => rfl
  | m + 1, j, e => by
    unfold zkF
    rw [zFr_n1 A hi (zS_tval r hr j (by omega)) (by omega), zFr_kF A hi hr m (j + 1) (by omega)]
theorem zFr_of (A : zFr h h' i) {j : Nat} {w : Int32} (hj : j ≠ i) : zisOf h' (30 + 5 * j) w = zisOf h (30 + 5 * j) w := by
  unfold zisOf
  rw [zFr_th A (by decide) (fun q => hj q.1), zFr_th A (by decide) (fun q => by cases q.2)]
theorem zFr_ofi (A : zFr h h' i) {w : Int32} : zisOf h' (30 + 5 * i) w = false := by
  unfold zisOf
  rw [A.at0]
  rfl
theorem zFr_kT (A : zFr h h' i) (hi : i < 60) (ho : zisOf h (30 + 5 * i) 0 = true) {t : Nat} : ∀ m j, j + m = 60 → zkT h t m j = zkT h' t m j + (if j ≤ i then zkF h i t 3 0 else 0)
  | 0, j, e => by rw [if_neg (by omega)]; rfl
  | m + 1, j, e => by
    have c : zkT h t (m + 1) j = zkT1 h t j + zkT h t m (j + 1) := rfl
    have c' : zkT h' t (m + 1) j = zkT1 h' t j + zkT h' t m (j + 1) := rfl
    have ih := zFr_kT A hi ho (t := t) m (j + 1) (by omega)
    rw [c, c', ih]
    by_cases q : j = i
    · subst q
      have d : zkT1 h t j = zkF h j t 3 0 := by unfold zkT1; rw [if_pos ho]
      have d' : zkT1 h' t j = 0 := by unfold zkT1; rw [if_neg (by rw [zFr_ofi A]; decide)]
      rw [d, d', if_neg (by omega), if_pos (Nat.le_refl _)]
      omega
    · have d : zkT1 h' t j = zkT1 h t j := by
        unfold zkT1
        rw [zFr_of A q, zFr_kF A hi (by omega) 3 0 rfl]
      rw [d]
      by_cases q2 : j ≤ i
      · rw [if_pos q2, if_pos (by omega)]
        omega
      · rw [if_neg q2, if_neg (by omega)]
        omega
theorem zFr_kN (A : zFr h h' i) (hi : i < 60) (ho : zisOf h (30 + 5 * i) 0 = true) {t : Nat} : zkN h t = zkN h' t + zkF h i t 3 0 := by
  have a := zFr_kG A hi (t := t) 8 0 rfl
  have b := zFr_kT A hi ho (t := t) 60 0 rfl
  rw [if_pos (Nat.zero_le _)] at b
  unfold zkN
  omega
theorem zFr_lv (A : zFr h h' i) (h0 : 0 ≤ h.1 (30 + 5 * i) 0) : ∀ n, zlv h n = zlv h' n + (if i < n then 1 else 0)
  | 0 => rfl
  | n + 1 => by
    have ih := zFr_lv A h0 n
    have c : zlv h (n + 1) = zlv h n + (if 0 ≤ h.1 (30 + 5 * n) 0 then 1 else 0) := rfl
    have c' : zlv h' (n + 1) = zlv h' n + (if 0 ≤ h'.1 (30 + 5 * n) 0 then 1 else 0) := rfl
    rw [c, c', ih]
    by_cases q : n = i
    · subst q
      rw [A.at0, if_pos h0, if_neg (Nat.lt_irrefl _), if_pos (Nat.lt_succ_self _), if_neg (by decide)]
    · rw [zFr_th A (by decide) (fun w => q w.1)]
      by_cases q2 : i < n
      · rw [if_pos q2, if_pos (show i < n + 1 by omega)]
        omega
      · rw [if_neg q2, if_neg (show ¬ i < n + 1 by omega)]
        omega
theorem zFr_Gd (A : zFr h h' i) (hi : i < 60) {k : Nat} (hk : zS k = (0, 6, 6)) (h6 : 6 ≤ k) (no : h.1 k 0 = 116 → h.2.2.2 k 5 ≠ some (30 + 5 * i)) (g : zGd h k) : zGd h' k := by
  intro e
  rw [zFr_val A hi hk h6] at e
  obtain ⟨r, hr, e1, e2, e3⟩ := g e
  have hne : r ≠ i := fun q => no e (q ▸ e1)
  refine ⟨r, hr, ?_, ?_, ?_⟩
  · rw [show h'.2.2.2 = h.2.2.2 from congrArg (fun z => z.2.2) A.two]
    exact e1
  · rw [zFr_th A (by decide) (fun q => hne q.1)]
    exact e2
  · rw [zFr_th A (by decide) (fun q => hne q.1), zFr_val A hi hk h6, show h'.2.1 = h.2.1 from congrArg Prod.fst A.two]
    exact e3
theorem zFr_pr (A : zFr h h' i) (hi : i < 60) (hw : zWk h) {k : Nat} (hk : zS k = (0, 6, 6)) (h6 : 6 ≤ k) (g : zpr h k) : zpr h' k := by
  intro e t ht e1
  rw [zFr_val A hi hk h6] at e
  rw [show h'.2.2.2 = h.2.2.2 from congrArg (fun z => z.2.2) A.two] at ht
  obtain ⟨r, hr, rfl⟩ := hw.1.2.1 k hk t ht
  rw [zFr_th A (by decide) (fun q => by cases q.2)] at e1 ⊢
  exact g e _ ht e1
theorem zFr_HI (A : zFr h h' i) (hi : i < 60) (hw : zWk h) (H : zHI h) {M : Nat} (hM : M ≤ 1000000) (hm : h.1 2 4 = nI M) (h0 : 0 ≤ h.1 (30 + 5 * i) 0)
    (nG : ∀ x, x < 24 → h.1 (6 + x) 0 = 116 → h.2.2.2 (6 + x) 5 ≠ some (30 + 5 * i))
    (nF : ∀ j f, j < 60 → j ≠ i → 0 ≤ h.1 (30 + 5 * j) 0 → f < 3 → h.1 (32 + 5 * j + f) 0 = 116 → h.2.2.2 (32 + 5 * j + f) 5 ≠ some (30 + 5 * i)) : zHI h' := by
  obtain ⟨a, b, ⟨c1, c2⟩, F, hF, d1, d2⟩ := H
  have t2 : h'.1 2 4 = h.1 2 4 := A.off 2 4 (fun q => by have := zTh_ge q.2; omega) (fun q => by omega) (fun q => by omega)
  have live : ∀ r, 0 ≤ h'.1 (30 + 5 * r) 0 → r ≠ i := fun r q e => by
    subst e
    rw [A.at0] at q
    exact absurd q (by decide)
  have lv := zFr_lv A h0 60
  rw [if_pos hi] at lv
  have l60 := zlv_le (h := h) 60
  refine ⟨fun x hx => ⟨zFr_Gd A hi (zS_val24 x hx) (by omega) (nG x hx) (a x hx).1, fun h8 => zFr_pr A hi hw (zS_val24 x hx) (by omega) ((a x hx).2 h8)⟩, fun r hr q => ?_, ⟨fun r hr q => ?_, fun r s hr hs q e => ?_⟩, F + 1, ?_, ?_, ?_⟩
  · have hne := live r q
    rw [zFr_th A (by decide) (fun w => hne w.1)] at q
    have t1 : h'.1 (30 + 5 * r) 1 = h.1 (30 + 5 * r) 1 := zFr_th A (by decide) (fun w => by cases w.2)
    rw [t1]
    exact ⟨(b r hr q).1, fun f hf => ⟨zFr_Gd A hi (zS_tval r hr f hf) (by omega) (nF r f hr hne q hf) ((b r hr q).2 f hf).1, fun hl => zFr_pr A hi hw (zS_tval r hr f hf) (by omega) (((b r hr q).2 f hf).2 hl)⟩⟩
  · have hne := live r q
    rw [zFr_th A (by decide) (fun w => hne w.1)] at q ⊢
    rw [t2]
    exact c1 r hr q
  · have hne := live r q
    have hns := live s (e ▸ q)
    rw [zFr_th A (by decide) (fun w => hne w.1)] at q e
    rw [zFr_th A (by decide) (fun w => hns w.1)] at e
    exact c2 r s hr hs q e
  · rw [hm] at d2
    have := (nI_eq (by omega) (by omega)).mp d2
    omega
  · rw [A.fr, d1]
    exact (nI_succ F).symm
  · rw [t2, d2]
    congr 1
    omega
end ZFR
