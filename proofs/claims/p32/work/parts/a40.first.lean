/-! the heap behind the constructors -/
def zI0 (k j : Nat) : Int32 :=
  if j = 0 ∧ 6 ≤ k ∧ k < 30 then (if k < 14 then 117 else if k < 22 then 110 else 101)
  else if j = 0 ∧ 30 ≤ k ∧ k < 330 then (if k % 5 = 0 then -1 else if k % 5 = 1 then 0 else 110)
  else if j = 0 ∧ 334 ≤ k ∧ k < 750 then 110
  else if j = 0 ∧ 781 ≤ k ∧ k < 853 then (if k % 6 = 1 then 0 else if k % 6 = 2 then 0 else 110)
  else if j = 0 ∧ k = 853 then 110
  else if j = 9 ∧ k = 1 then 45
  else if j = 7 ∧ 751 ≤ k ∧ k < 781 ∧ k % 3 = 1 then -1
  else 0
def zR0 (k j : Nat) : Option Nat :=
  if k = 0 then (if j = 0 then some 1 else if j = 1 then some 2 else if j = 2 then some 853 else none)
  else if k = 1 then (if j = 0 then some 2 else if j = 1 then some 330 else if j = 3 then some 331 else if j = 6 then some 332 else if j = 10 then some 747 else if j = 11 then some 748 else if j = 12 then some 749 else if j = 14 then some 750 else none)
  else if k = 2 then (if j = 0 then some 3 else if j = 1 then some 4 else if j = 2 then some 5 else none)
  else if k = 3 then (if j < 24 then some (6 + j) else none)
  else if k = 4 then (if j < 60 then some (30 + 5 * j) else none)
  else if 30 ≤ k ∧ k < 330 then (if k % 5 = 0 then (if j = 2 then some (k + 1) else none) else if k % 5 = 1 then (if j < 3 then some (k + 1 + j) else none) else none)
  else if k = 330 then (if j < 9 then some (751 + 3 * j) else none)
  else if k = 331 then (if j < 12 then some (781 + 6 * j) else none)
  else if k = 332 then (if j = 0 then some 333 else if j = 1 then some 334 else none)
  else if k = 333 then (if j < 412 then some (335 + j) else none)
  else if 751 ≤ k ∧ k < 781 ∧ k % 3 = 1 then (if j = 2 then some (k + 1) else if j = 3 then some (k + 2) else none)
  else if 781 ≤ k ∧ k < 853 then (if k % 6 = 1 then (if j = 0 then some 778 else if j = 6 then some (k + 1) else none) else if k % 6 = 2 then (if j < 4 then some (k + 1 + j) else none) else none)
  else none
def zh0 : zH := (zI0, fun _ _ => 0, fun _ _ => 0, zR0)
theorem zR0_t {k : Nat} (h1 : 30 ≤ k) (h2 : k < 330) (j : Nat) : zR0 k j = if k % 5 = 0 then (if j = 2 then some (k + 1) else none) else if k % 5 = 1 then (if j < 3 then some (k + 1 + j) else none) else none := by
  unfold zR0
  rw [if_neg (by omega), if_neg (by omega), if_neg (by omega), if_neg (by omega), if_neg (by omega), if_pos ⟨h1, h2⟩]
theorem zR0_f {f : Nat} (hf : f < 10) (j : Nat) : zR0 (751 + 3 * f) j = if j = 2 then some (752 + 3 * f) else if j = 3 then some (753 + 3 * f) else none := by
  unfold zR0
  rw [if_neg (by omega), if_neg (by omega), if_neg (by omega), if_neg (by omega), if_neg (by omega), if_neg (by omega), if_neg (by omega), if_neg (by omega), if_neg (by omega), if_neg (by omega), if_pos ⟨by omega, by omega, by omega⟩]
  rw [show 751 + 3 * f + 1 = 752 + 3 * f by omega, show 751 + 3 * f + 2 = 753 + 3 * f by omega]
theorem zR0_c {k : Nat} (h1 : 781 ≤ k) (h2 : k < 853) (j : Nat) : zR0 k j = if k % 6 = 1 then (if j = 0 then some 778 else if j = 6 then some (k + 1) else none) else if k % 6 = 2 then (if j < 4 then some (k + 1 + j) else none) else none := by
  unfold zR0
  rw [if_neg (by omega), if_neg (by omega), if_neg (by omega), if_neg (by omega), if_neg (by omega), if_neg (by omega), if_neg (by omega), if_neg (by omega), if_neg (by omega), if_neg (by omega), if_neg (by omega), if_pos ⟨h1, h2⟩]
theorem zFix_0 : zFix zR0 := by
  refine ⟨⟨rfl, rfl, rfl⟩, ⟨rfl, rfl, rfl, rfl, rfl, rfl, rfl, rfl⟩, ⟨rfl, rfl, rfl⟩, ⟨rfl, rfl⟩, fun i hi => if_pos hi, fun r hr => ⟨if_pos hr, ?_, fun f hf => ?_⟩, fun f hf => if_pos hf, fun f hf => ⟨?_, ?_⟩, fun c hc => ⟨if_pos hc, ?_, fun l hl => ?_⟩, fun j hj => if_pos hj⟩
  · rw [zR0_t (by omega) (by omega), if_pos (by omega), if_pos rfl]
    congr 1
    omega
  · rw [zR0_t (by omega) (by omega), if_neg (by omega), if_pos (by omega), if_pos hf]
    congr 1
    omega
  · rw [zR0_f hf, if_pos rfl]
  · rw [zR0_f hf, if_neg (by decide), if_pos rfl]
  · rw [zR0_c (by omega) (by omega), if_pos (by omega), if_neg (by decide), if_pos rfl]
    congr 1
    omega
  · rw [zR0_c (by omega) (by omega), if_neg (by omega), if_pos (by omega), if_pos hl]
    congr 1
    omega
/-- no value refers to anything -/
theorem zR0_v : ∀ k, k < 855 → zS k = (0, 6, 6) → zR0 k 5 = none := by decide +kernel
theorem zS_v855 {k : Nat} (hk : zS k = (0, 6, 6)) : k < 855 := by
  have := zS_lt hk (by decide)
  exact this
theorem zShp_0 : zShp zR0 := by
  refine ⟨zFix_0, fun k hk t ht => ?_, fun j t ht => ?_, fun c hc => ⟨9, by decide, ?_⟩⟩
  · rw [zR0_v k (zS_v855 hk) hk] at ht
    cases ht
  · have : zR0 5 j = none := rfl
    rw [this] at ht
    cases ht
  · rw [zR0_c (by omega) (by omega), if_pos (by omega), if_pos rfl]
theorem zI0_v : ∀ k, k < 855 → zS k = (0, 6, 6) → (zI0 k 0 = 117 ∨ zI0 k 0 = 110 ∨ zI0 k 0 = 101) ∧ zI0 k 2 = 0 := by decide +kernel
theorem zI0_o : ∀ k, k < 855 → (zS k = (0, 5, 6) → zI0 k 3 = 0 ∧ zI0 k 5 = 0) ∧ (zS k = (0, 1, 9) → zI0 k 8 = 0) := by decide +kernel
theorem zTyp_0 : zTyp zI0 := by
  refine ⟨fun k hk => ?_, fun k hk => ?_, fun k hk => ?_, by decide⟩
  · obtain ⟨a, b⟩ := zI0_v k (zS_v855 hk) hk
    refine ⟨?_, Or.inl b⟩
    rcases a with a | a | a <;> rw [a] <;> decide
  · obtain ⟨a, b⟩ := (zI0_o k (zS_lt hk (by decide))).1 hk
    exact ⟨Or.inl a, Or.inl b⟩
  · exact Or.inl ((zI0_o k (zS_lt hk (by decide))).2 hk)
theorem zGd_0 {k : Nat} (hk : zS k = (0, 6, 6)) : zGd zh0 k := fun e => by
  have e : zI0 k 0 = 116 := e
  rcases (zI0_v k (zS_v855 hk) hk).1 with a | a | a <;> rw [a] at e <;> exact absurd e (by decide)
theorem zI0_T : ∀ r, r < 60 → zI0 (30 + 5 * r) 0 = -1 := by decide +kernel
theorem zlv_0 : ∀ n, n ≤ 60 → zlv zh0 n = 0
  | 0, _ => rfl
  | n + 1, h => by
    unfold zlv
    rw [zlv_0 n (by omega), if_neg]
    show ¬ 0 ≤ zI0 (30 + 5 * n) 0
    rw [zI0_T n (by omega)]
    decide
theorem zno_0 {r : Nat} (hr : r < 60) : ¬ 0 ≤ zh0.1 (30 + 5 * r) 0 := by
  show ¬ 0 ≤ zI0 (30 + 5 * r) 0
  rw [zI0_T r hr]
  decide
theorem zHI_0 : zHI zh0 := by
  refine ⟨fun i hi => ⟨zGd_0 (zS_val24 i hi), fun _ e => ?_⟩, fun r hr q => absurd q (zno_0 hr), ⟨fun r hr q => absurd q (zno_0 hr), fun r s hr _ q => absurd q (zno_0 hr)⟩, 0, by decide, rfl, by rw [zlv_0 60 (Nat.le_refl _)]; rfl⟩
  obtain ⟨r, hr, -, q, -⟩ := zGd_0 (zS_val24 i hi) e
  exact absurd q (zno_0 hr)
theorem zI0_f : ∀ f, f < 10 → zI0 (751 + 3 * f) 0 = 0 ∧ zI0 (751 + 3 * f) 1 = 0 ∧ zI0 (751 + 3 * f) 4 = 0 := by decide +kernel
theorem zI0_854 : ∀ f, f < 9 → zI0 854 f = 0 := by decide +kernel
theorem zLi_0 : zLi zh0 0 0 0 := by
  refine ⟨⟨⟨⟨zShp_0, zTyp_0⟩, fun k hk => zn_0, ⟨fun f hf => ?_, ⟨0, by decide, rfl⟩, by decide⟩, zHI_0⟩, fun r hr q => absurd (zisOf_i.mp q).1 (zno_0 hr), rfl⟩, rfl, by decide, fun f hf => ?_, 0, Nat.le_refl _, rfl⟩
  · obtain ⟨a, b, c⟩ := zI0_f f hf
    exact ⟨⟨0, by decide, a⟩, ⟨0, by decide, b⟩, 0, by decide, c⟩
  · exact (zI0_854 f hf).trans ((zI0_f f (by omega)).2.2).symm
theorem zA_le : zA 76 ≤ 492560 := by decide +kernel
