/-! THE LAYOUT: which cell is what, and what of the references never changes -/
theorem zS_val24 : ∀ i, i < 24 → zS (6 + i) = (0, 6, 6) := by decide +kernel
theorem zS_thing : ∀ r, r < 60 → zS (30 + 5 * r) = (0, 5, 6) := by decide +kernel
theorem zS_tarr : ∀ r, r < 60 → zS (31 + 5 * r) = (1, 5, 3) := by decide +kernel
theorem zS_tval : ∀ r, r < 60 → ∀ f, f < 3 → zS (32 + 5 * r + f) = (0, 6, 6) := by decide +kernel
theorem zS_cell : ∀ j, j < 412 → zS (335 + j) = (0, 6, 6) := by decide +kernel
theorem zS_fun : ∀ f, f < 10 → zS (751 + 3 * f) = (0, 1, 9) := by decide +kernel
theorem zS_fops : ∀ f, f < 10 → zS (752 + 3 * f) = (1, 1, 20) := by decide +kernel
theorem zS_fnum : ∀ f, f < 10 → zS (753 + 3 * f) = (1, 0, 20) := by decide +kernel
theorem zS_call : ∀ c, c < 12 → zS (781 + 6 * c) = (0, 0, 7) := by decide +kernel
theorem zS_carr : ∀ c, c < 12 → zS (782 + 6 * c) = (1, 5, 4) := by decide +kernel
theorem zS_cval : ∀ c, c < 12 → ∀ l, l < 4 → zS (783 + 6 * c + l) = (0, 6, 6) := by decide +kernel
theorem zS_0 : zS 0 = (0, 7, 3) := by decide +kernel
theorem zS_1 : zS 1 = (0, 3, 16) := by decide +kernel
theorem zS_2 : zS 2 = (0, 2, 6) := by decide +kernel
theorem zS_3 : zS 3 = (1, 5, 24) := by decide +kernel
theorem zS_4 : zS 4 = (1, 6, 60) := by decide +kernel
theorem zS_5 : zS 5 = (1, 6, 60) := by decide +kernel
theorem zS_330 : zS 330 = (1, 7, 9) := by decide +kernel
theorem zS_331 : zS 331 = (1, 8, 12) := by decide +kernel
theorem zS_332 : zS 332 = (0, 4, 3) := by decide +kernel
theorem zS_333 : zS 333 = (1, 5, 412) := by decide +kernel
theorem zS_334 : zS 334 = (0, 6, 6) := by decide +kernel
theorem zS_747 : zS 747 = (0, 6, 6) := by decide +kernel
theorem zS_748 : zS 748 = (0, 6, 6) := by decide +kernel
theorem zS_749 : zS 749 = (0, 6, 6) := by decide +kernel
theorem zS_750 : zS 750 = (1, 0, 24) := by decide +kernel
theorem zS_853 : zS 853 = (0, 6, 6) := by decide +kernel
theorem zS_854 : zS 854 = (1, 0, 9) := by decide +kernel
/-- a thing's room, a function, a call -/
def zTh (t : Nat) : Prop := ∃ r, r < 60 ∧ t = 30 + 5 * r
theorem zTh_S {t : Nat} (h : zTh t) : zS t = (0, 5, 6) := by
  obtain ⟨r, hr, rfl⟩ := h
  exact zS_thing r hr
/-- what of the references is as the constructors left it -/
def zFix (R : Nat → Nat → Option Nat) : Prop :=
  (R 0 0 = some 1 ∧ R 0 1 = some 2 ∧ R 0 2 = some 853) ∧ (R 1 0 = some 2 ∧ R 1 1 = some 330 ∧ R 1 3 = some 331 ∧ R 1 6 = some 332 ∧ R 1 10 = some 747 ∧ R 1 11 = some 748 ∧ R 1 12 = some 749 ∧ R 1 14 = some 750) ∧
  (R 2 0 = some 3 ∧ R 2 1 = some 4 ∧ R 2 2 = some 5) ∧ (R 332 0 = some 333 ∧ R 332 1 = some 334) ∧
  (∀ i, i < 24 → R 3 i = some (6 + i)) ∧ (∀ r, r < 60 → R 4 r = some (30 + 5 * r) ∧ R (30 + 5 * r) 2 = some (31 + 5 * r) ∧ ∀ f, f < 3 → R (31 + 5 * r) f = some (32 + 5 * r + f)) ∧
  (∀ f, f < 9 → R 330 f = some (751 + 3 * f)) ∧ (∀ f, f < 10 → R (751 + 3 * f) 2 = some (752 + 3 * f) ∧ R (751 + 3 * f) 3 = some (753 + 3 * f)) ∧
  (∀ c, c < 12 → R 331 c = some (781 + 6 * c) ∧ R (781 + 6 * c) 6 = some (782 + 6 * c) ∧ ∀ l, l < 4 → R (782 + 6 * c) l = some (783 + 6 * c + l)) ∧ (∀ j, j < 412 → R 333 j = some (335 + j))
/-- which slots of references change at all -/
def zMut (k j : Nat) : Prop := ((zS k).1 = 0 ∧ (zS k).2.1 = 6 ∧ j = 5) ∨ k = 5 ∨ ((zS k).1 = 0 ∧ (zS k).2.1 = 0 ∧ j = 0)
theorem zFix_of {R R1 : Nat → Nat → Option Nat} (h : zFix R) (e : ∀ k j, ¬ zMut k j → R1 k j = R k j) : zFix R1 := by
  have mv : ∀ k j x y n, zS k = (x, y, n) → k ≠ 5 → ¬ (x = 0 ∧ y = 6 ∧ j = 5) → ¬ (x = 0 ∧ y = 0 ∧ j = 0) → R1 k j = R k j := by
    intro k j x y n hS h5 h6 h0
    refine e k j ?_
    unfold zMut
    rw [hS]
    rintro (q | q | q)
    · exact h6 q
    · exact h5 q
    · exact h0 q
  obtain ⟨⟨a1, a2, a3⟩, ⟨b1, b2, b3, b4, b5, b6, b7, b8⟩, ⟨c1, c2, c3⟩, ⟨d1, d2⟩, e1, e2, e3, e4, e5, e6⟩ := h
  refine ⟨⟨?_, ?_, ?_⟩, ⟨?_, ?_, ?_, ?_, ?_, ?_, ?_, ?_⟩, ⟨?_, ?_, ?_⟩, ⟨?_, ?_⟩, fun i hi => ?_, fun r hr => ⟨?_, ?_, fun f hf => ?_⟩, fun f hf => ?_, fun f hf => ⟨?_, ?_⟩, fun c hc => ⟨?_, ?_, fun l hl => ?_⟩, fun j hj => ?_⟩
  · rw [mv _ _ _ _ _ zS_0 (by omega) (by omega) (by omega)]; exact a1
  · rw [mv _ _ _ _ _ zS_0 (by omega) (by omega) (by omega)]; exact a2
  · rw [mv _ _ _ _ _ zS_0 (by omega) (by omega) (by omega)]; exact a3
  · rw [mv _ _ _ _ _ zS_1 (by omega) (by omega) (by omega)]; exact b1
  · rw [mv _ _ _ _ _ zS_1 (by omega) (by omega) (by omega)]; exact b2
  · rw [mv _ _ _ _ _ zS_1 (by omega) (by omega) (by omega)]; exact b3
  · rw [mv _ _ _ _ _ zS_1 (by omega) (by omega) (by omega)]; exact b4
  · rw [mv _ _ _ _ _ zS_1 (by omega) (by omega) (by omega)]; exact b5
  · rw [mv _ _ _ _ _ zS_1 (by omega) (by omega) (by omega)]; exact b6
  · rw [mv _ _ _ _ _ zS_1 (by omega) (by omega) (by omega)]; exact b7
  · rw [mv _ _ _ _ _ zS_1 (by omega) (by omega) (by omega)]; exact b8
  · rw [mv _ _ _ _ _ zS_2 (by omega) (by omega) (by omega)]; exact c1
  · rw [mv _ _ _ _ _ zS_2 (by omega) (by omega) (by omega)]; exact c2
  · rw [mv _ _ _ _ _ zS_2 (by omega) (by omega) (by omega)]; exact c3
  · rw [mv _ _ _ _ _ zS_332 (by omega) (by omega) (by omega)]; exact d1
  · rw [mv _ _ _ _ _ zS_332 (by omega) (by omega) (by omega)]; exact d2
  · rw [mv _ _ _ _ _ zS_3 (by omega) (by omega) (by omega)]; exact e1 i hi
  · rw [mv _ _ _ _ _ zS_4 (by omega) (by omega) (by omega)]; exact (e2 r hr).1
  · rw [mv _ _ _ _ _ (zS_thing r hr) (by omega) (by omega) (by omega)]; exact (e2 r hr).2.1
  · rw [mv _ _ _ _ _ (zS_tarr r hr) (by omega) (by omega) (by omega)]; exact (e2 r hr).2.2 f hf
  · rw [mv _ _ _ _ _ zS_330 (by omega) (by omega) (by omega)]; exact e3 f hf
  · rw [mv _ _ _ _ _ (zS_fun f hf) (by omega) (by omega) (by omega)]; exact (e4 f hf).1
  · rw [mv _ _ _ _ _ (zS_fun f hf) (by omega) (by omega) (by omega)]; exact (e4 f hf).2
  · rw [mv _ _ _ _ _ zS_331 (by omega) (by omega) (by omega)]; exact (e5 c hc).1
  · rw [mv _ _ _ _ _ (zS_call c hc) (by omega) (by omega) (by omega)]; exact (e5 c hc).2.1
  · rw [mv _ _ _ _ _ (zS_carr c hc) (by omega) (by omega) (by omega)]; exact (e5 c hc).2.2 l hl
  · rw [mv _ _ _ _ _ zS_333 (by omega) (by omega) (by omega)]; exact e6 j hj
/-- the references' sense: a value refers to a thing's room or to nothing, a call to a function -/
def zShp (R : Nat → Nat → Option Nat) : Prop := zFix R ∧ (∀ k, zS k = (0, 6, 6) → ∀ t, R k 5 = some t → zTh t) ∧ (∀ j t, R 5 j = some t → zTh t) ∧ ∀ c, c < 12 → ∃ f, f < 10 ∧ R (781 + 6 * c) 0 = some (751 + 3 * f)
/-- a value's target is set: to nothing or to a room -/
theorem zShp_tgt {h : zH} (hS : zShp h.2.2.2) {k : Nat} {q : Option Nat} (hk : zS k = (0, 6, 6)) (hq : ∀ t, q = some t → zTh t) : zShp (zupR h k 5 q).2.2.2 := by
  obtain ⟨h1, h2, h3, h4⟩ := hS
  have hk5 : k ≠ 5 := fun e => by rw [e, zS_5] at hk; cases hk
  refine ⟨zFix_of h1 fun k' j' hm => zupR_ne (fun e => hm ?_), fun k' hk' t ht => ?_, fun j t ht => ?_, fun c hc => ?_⟩
  · obtain ⟨rfl, rfl⟩ := e
    exact Or.inl (by rw [hk]; exact ⟨rfl, rfl, rfl⟩)
  · by_cases e : k' = k
    · subst e
      rw [zupR_at] at ht
      exact hq t ht
    · rw [zupR_ne (fun q => e q.1)] at ht
      exact h2 k' hk' t ht
  · rw [zupR_ne (fun q => hk5 q.1.symm)] at ht
    exact h3 j t ht
  · obtain ⟨f, hf, e⟩ := h4 c hc
    refine ⟨f, hf, ?_⟩
    rw [zupR_ne (fun q => by omega)]
    exact e
