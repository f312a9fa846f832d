/-! the stack, the heap's stores, a new thing, calls: what they keep -/
section ZRO
variable {h h' h1 : zH} {T s d : Nat}
theorem zt332 : ∀ r, r < 60 → 30 + 5 * r ≠ 332 := fun r _ q => by omega
theorem zv332 : ∀ k, zS k = (0, 6, 6) → k ≠ 332 := fun k hk => zne_o hk zS_332 (by omega)
theorem zK_332 {x : Int32} (hw : zWk h) : zWk (zupI h 332 2 x) := zK_I hw (zTok_o zS_332 (by decide) (by decide) (by decide) (by decide))
theorem zGk_332 {x : Int32} : zGk h (zupI h 332 2 x) := ⟨fun k hk g => zGd_I zt332 (fun q => zv332 k hk q.1) g, zupI_ne (fun q => by omega)⟩
theorem zSt_332 {x : Int32} : zSt h (zupI h 332 2 x) 0 := zSt_off zoffI (by decide) (by decide) (Or.inl (by decide))
theorem zHq_332 {x : Int32} : zHq h (zupI h 332 2 x) := zHq_off zoffI (by decide) (Or.inr (by decide))
theorem zCl_of (g : zGk h h') (h4 : h'.1 1 4 = h.1 1 4) (hb : ∀ c, c < 12 → h'.1 (781 + 6 * c) 5 = h.1 (781 + 6 * c) 5) {T' : Nat} (hT : T ≤ T') (H : zCl h T d) : zCl h' T' d := by
  obtain ⟨a, b, c⟩ := H
  refine ⟨a, h4.trans b, fun e he => ⟨?_, fun l hl => g.1 _ (zS_cval e (by omega) l hl) ((c e he).2 l hl)⟩⟩
  obtain ⟨x, hx, e2⟩ := (c e he).1
  exact ⟨x, by omega, (hb e (by omega)).trans e2⟩
theorem zRI_top (R : zRI h T s d) {s' : Nat} (hs : s' ≤ T) : zRI (zupI h 332 2 (nI s')) T s' d := by
  obtain ⟨hw, hn, hf, hi, ⟨k1, k2, k3, k4⟩, L⟩ := R
  exact ⟨zK_332 hw, hn, zFn_st zSt_332 hf, zHI_q hw zHq_332 hi, ⟨k1, hs, zupI_at, fun j hj => zGk_332.1 _ (zS_cell j (by omega)) (k4 j hj)⟩, zCl_of zGk_332 (zupI_ne (fun q => by omega)) (fun c hc => zupI_ne (fun q => by omega)) (Nat.le_refl _) L⟩
theorem zpoS1 (hs : s ≤ 412) : zS (zpo s) = (0, 6, 6) := by
  unfold zpo
  split
  · exact zS_334
  · exact zS_cell _ (by omega)
theorem zpuS1 : zS (zpu s) = (0, 6, 6) := by
  unfold zpu
  split
  · rename_i q
    exact zS_cell _ q
  · exact zS_334
theorem zpo_3 : 330 ≤ zpo s := by
  unfold zpo
  split <;> omega
theorem zpu_3 : 330 ≤ zpu s := by
  unfold zpu
  split <;> omega
theorem zpoH_gk : zGk h (zpoH h s) := by
  unfold zpoH
  split
  · exact zGk_refl
  · exact zGk_332
theorem zpoH_st : zSt h (zpoH h s) 0 := by
  unfold zpoH
  split
  · exact zSt_refl
  · exact zSt_332
theorem zpuH_gk : zGk h (zpuH h s) := by
  unfold zpuH
  split
  · exact zGk_332
  · exact zGk_refl
theorem zpuH_st : zSt h (zpuH h s) 0 := by
  unfold zpuH
  split
  · exact zSt_332
  · exact zSt_refl
theorem zpuH_wk (hw : zWk h) : zWk (zpuH h s) := by
  unfold zpuH
  split
  · exact zK_332 hw
  · exact hw
theorem zpuH_nn (hn : zNn h) : zNn (zpuH h s) := by
  unfold zpuH
  split
  · exact hn
  · exact hn
theorem zRI_pop (R : zRI h T s d) : zRI (zpoH h s) T (s - 1) d := by
  unfold zpoH
  split
  · rename_i q
    obtain rfl : s = 0 := by omega
    exact R
  · exact zRI_top R (by have := R.2.2.2.2.1.2.1; omega)
theorem zpo_gd (R : zRI h T s d) (hs : 1 ≤ s) : zGd (zpoH h s) (zpo s) := by
  have h1 := R.2.2.2.2.1
  refine zpoH_gk.1 _ (zpoS1 (by have := h1.1; have := h1.2.1; omega)) ?_
  unfold zpo
  rw [if_neg (by omega)]
  exact h1.2.2.2 (s - 1) (by have := h1.2.1; omega)
/-- pushed, then written -/
theorem zRI_push (R : zRI h T s d) (v : zVW (zpuH h s) (zpu s) h') : ∃ T' s', zRI h' T' s' d := by
  obtain ⟨hw, hn, hf, hi, ⟨k1, k2, k3, k4⟩, L⟩ := R
  have g : zGk h h' := zGk_tr zpuH_gk (zGk_vw zpuS1 v)
  have st : zSt h h' 0 := zSt_tr zpuH_st (zSt_vw zpuS1 v)
  have q : zHq h h' := by
    refine fun c hc => ?_
    have e1 := zHq_off v.1 (zne_o zpuS1 zS_2 (by omega)) (Or.inr zpu_3) c hc
    have e2 : zHq h (zpuH h s) := by
      unfold zpuH
      split
      · exact zHq_332
      · exact fun _ _ => ⟨rfl, rfl, rfl⟩
    have e2 := e2 c hc
    exact ⟨e1.1.trans e2.1, e1.2.1.trans e2.2.1, e1.2.2.trans e2.2.2⟩
  by_cases hs : s < 412
  · have eh : zpuH h s = zupI h 332 2 (nI (s + 1)) := if_pos hs
    have ek : zpu s = 335 + s := if_pos hs
    have mk := zMk_vw zpuS1 v
    have top : h'.1 332 2 = nI (s + 1) := mk.1.trans (by rw [eh]; exact zupI_at)
    have L1 : zCl (zpuH h s) (max T (s + 1)) d := zCl_of zpuH_gk (by rw [eh]; exact zupI_ne (fun q => by omega)) (fun c hc => by rw [eh]; exact zupI_ne (fun q => by omega)) (by omega) L
    refine ⟨max T (s + 1), s + 1, v.2.1, v.2.2.1, zFn_st st hf, zHI_q hw q hi, ⟨by omega, by omega, top, fun j hj => ?_⟩, zCl_of (zGk_vw zpuS1 v) mk.2.1 mk.2.2 (Nat.le_refl _) L1⟩
    by_cases e : j = s
    · subst e
      have := v.2.2.2
      rwa [ek] at this
    · exact g.1 _ (zS_cell j (by omega)) (k4 j (by omega))
  · have eh : zpuH h s = h := if_neg hs
    rw [eh] at v
    exact ⟨T, s, zRI_vw ⟨hw, hn, hf, hi, ⟨k1, k2, k3, k4⟩, L⟩ zpuS1 zpu_3 v⟩
theorem zpush_st (v : zVW (zpuH h s) (zpu s) h') : zSt h h' 0 ∧ zGk h h' := ⟨zSt_tr zpuH_st (zSt_vw zpuS1 v), zGk_tr zpuH_gk (zGk_vw zpuS1 v)⟩
/-! a call's slots -/
theorem ztc0 {c : Nat} (hc : c < 12) : ∀ r, r < 60 → 30 + 5 * r ≠ 781 + 6 * c := fun r _ q => by omega
theorem zGk_C {c j : Nat} {x : Int32} (hc : c < 12) : zGk h (zupI h (781 + 6 * c) j x) := ⟨fun k hk g => zGd_I (ztc0 hc) (fun q => zne_c hk hc q.1) g, zupI_ne (fun q => by omega)⟩
theorem zSt_C {c j : Nat} {x : Int32} : zSt h (zupI h (781 + 6 * c) j x) 0 := zSt_off zoffI (by omega) (by omega) (Or.inr (by omega))
theorem zHq_C {c j : Nat} {x : Int32} : zHq h (zupI h (781 + 6 * c) j x) := zHq_off zoffI (by omega) (Or.inr (by omega))
theorem zMk_C {c j : Nat} {x : Int32} (h5 : j ≠ 5) : zMk h (zupI h (781 + 6 * c) j x) := ⟨zupI_ne (fun q => by omega), zupI_ne (fun q => by omega), fun c' hc' => zupI_ne (fun q => h5 q.2.symm)⟩
theorem zRI_C (R : zRI h T s d) {c j : Nat} {x : Int32} (hc : c < 12) (h5 : j ≠ 5) : zRI (zupI h (781 + 6 * c) j x) T s d :=
  zRI_keep R (zK_I R.1 (zTok_c hc)) R.2.1 (zHI_q R.1 zHq_C R.2.2.2.1) (zGk_C hc) zSt_C (zMk_C h5)
/-- depth: less, or one more over a ready call -/
theorem zSt_I14 {x : Int32} : zSt h (zupI h 1 4 x) 0 := zSt_I1 (by decide)
theorem zGk_I14 {x : Int32} : zGk h (zupI h 1 4 x) := zGk_I1 (by decide)
theorem zRI_depth (R : zRI h T s d) {d' : Nat} (h12 : d' ≤ 12) (hc : ∀ c, c < d' → c < d ∨ ((∃ b, b ≤ T ∧ h.1 (781 + 6 * c) 5 = nI b) ∧ ∀ l, l < 4 → zGd h (783 + 6 * c + l))) : zRI (zupI h 1 4 (nI d')) T s d' := by
  obtain ⟨hw, hn, hf, hi, ⟨k1, k2, k3, k4⟩, l1, l2, l3⟩ := R
  refine ⟨zK_I hw (zTok_m (fun e => by cases e)), hn, zFn_st zSt_I14 hf, zHI_q hw zHq_1 hi, ⟨k1, k2, (zupI_ne (fun q => by omega)).trans k3, fun j hj => zGk_I14.1 _ (zS_cell j (by omega)) (k4 j hj)⟩, h12, zupI_at, fun c hc' => ?_⟩
  have key : (∃ b, b ≤ T ∧ h.1 (781 + 6 * c) 5 = nI b) ∧ ∀ l, l < 4 → zGd h (783 + 6 * c + l) := by
    rcases hc c hc' with q | q
    · exact l3 c q
    · exact q
  refine ⟨?_, fun l hl => zGk_I14.1 _ (zS_cval c (by omega) l hl) (key.2 l hl)⟩
  rw [zupI_ne (fun q => by omega)]
  exact key.1
theorem zRI_less (R : zRI h T s d) {d' : Nat} (hd : d' ≤ d) : zRI (zupI h 1 4 (nI d')) T s d' := zRI_depth R (by have := R.2.2.2.2.2.1; omega) (fun c hc => Or.inl (by omega))
/-- the base of a call at or above the depth -/
theorem zRI_base (R : zRI h T s d) {c : Nat} {x : Int32} (hc : c < 12) (hcd : d ≤ c) : zRI (zupI h (781 + 6 * c) 5 x) T s d := by
  obtain ⟨hw, hn, hf, hi, ⟨k1, k2, k3, k4⟩, l1, l2, l3⟩ := R
  refine ⟨zK_I hw (zTok_c hc), hn, zFn_st zSt_C hf, zHI_q hw zHq_C hi, ⟨k1, k2, (zupI_ne (fun q => by omega)).trans k3, fun j hj => (zGk_C hc).1 _ (zS_cell j (by omega)) (k4 j hj)⟩, l1, (zupI_ne (fun q => by omega)).trans l2, fun c' hc' => ⟨?_, fun l hl => (zGk_C hc).1 _ (zS_cval c' (by omega) l hl) ((l3 c' hc').2 l hl)⟩⟩
  rw [zupI_ne (fun q => by omega)]
  exact (l3 c' hc').1
/-- the trace's row -/
theorem zRI_750 (R : zRI h T s d) {j : Nat} {x : Int32} : zRI (zupI h 750 j x) T s d ∧ zSt h (zupI h 750 j x) 0 ∧ zGk h (zupI h 750 j x) := by
  have st : zSt h (zupI h 750 j x) 0 := zSt_off zoffI (by decide) (by decide) (Or.inl (by decide))
  have g : zGk h (zupI h 750 j x) := zGk_off zoffI (by decide) (fun q => by rw [zS_750] at q; cases q) (fun r hr q => by omega)
  exact ⟨zRI_keep R (zK_I R.1 (zTok_o zS_750 (by decide) (by decide) (by decide) (by decide))) R.2.1 (zHI_q R.1 (zHq_off zoffI (by decide) (Or.inr (by decide))) R.2.2.2.1) g st (zMk_off zoffI (by decide) (by decide) (fun c hc q => by omega)), st, g⟩
end ZRO
