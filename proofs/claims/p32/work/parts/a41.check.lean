/-! the executor's tree against the heap behind the constructors -/
noncomputable def zsl (ty k j : Nat) (v : xV) : Bool := match ty with
  | 0 => Nat.beq v.1 2 && decide (Int32.ofInt v.2 = zI0 k j)
  | 1 => Nat.beq v.1 2 && decide (Int32.ofInt v.2 = zI0 k j)
  | 2 => Nat.beq v.1 2 && decide (Int32.ofInt v.2 = zI0 k j)
  | 3 => Nat.beq v.1 3 && decide (v.2 = Int.ofNat 0)
  | 4 => Nat.beq v.1 4 && decide (v.2 = Int.ofNat 0)
  | _ => match zR0 k j with
    | none => Nat.beq v.1 0
    | some q => Nat.beq v.1 1 && decide (v.2 = Int.ofNat q)
theorem zsl_i {ρ : xE} {k j : Nat} {v : xV} (h : (Nat.beq v.1 2 && decide (Int32.ofInt v.2 = zI0 k j)) = true) : xD ρ v = .int (zI0 k j) := by
  obtain ⟨a, z⟩ := v
  rw [Bool.and_eq_true, decide_eq_true_iff] at h
  have e : a = 2 := Nat.eq_of_beq_eq_true h.1
  subst e
  rw [← h.2]
  rfl
theorem zsl_ok {ρ : xE} {ty k j : Nat} {v : xV} (h : zsl ty k j v = true) : xD ρ v = zval ρ zh0 ty k j := by
  match ty with
  | 0 => exact zsl_i h
  | 1 => exact zsl_i h
  | 2 => exact zsl_i h
  | 3 =>
    obtain ⟨a, z⟩ := v
    have h : (Nat.beq a 3 && decide (z = Int.ofNat 0)) = true := h
    rw [Bool.and_eq_true, decide_eq_true_iff] at h
    have e : a = 3 := Nat.eq_of_beq_eq_true h.1
    subst e
    rw [h.2]
    rfl
  | 4 =>
    obtain ⟨a, z⟩ := v
    have h : (Nat.beq a 4 && decide (z = Int.ofNat 0)) = true := h
    rw [Bool.and_eq_true, decide_eq_true_iff] at h
    have e : a = 4 := Nat.eq_of_beq_eq_true h.1
    subst e
    rw [h.2]
    rfl
  | n + 5 =>
    obtain ⟨a, z⟩ := v
    have h : (match zR0 k j with
      | none => Nat.beq a 0
      | some q => Nat.beq a 1 && decide (z = Int.ofNat q)) = true := h
    show xD ρ (a, z) = zrf ρ (zR0 k j)
    cases hq : zR0 k j with
    | none =>
      rw [hq] at h
      have e : a = 0 := Nat.eq_of_beq_eq_true h
      subst e
      rfl
    | some q =>
      rw [hq] at h
      have h : (Nat.beq a 1 && decide (z = Int.ofNat q)) = true := h
      rw [Bool.and_eq_true, decide_eq_true_iff] at h
      have e : a = 1 := Nat.eq_of_beq_eq_true h.1
      subst e
      rw [h.2]
      rfl
theorem lget_e {α : Type} {z : α} : ∀ (l : List α) (j : Nat), l[j]? = if j < l.length then some (lget z l j) else none
  | [], j => by simp
  | a :: l, 0 => by simp; rfl
  | a :: l, j + 1 => by
    rw [List.getElem?_cons_succ, lget_e l j, List.length_cons]
    by_cases h : j < l.length
    · rw [if_pos h, if_pos (by omega)]
      rfl
    · rw [if_neg h, if_neg (by omega)]
noncomputable def zck (k : Nat) (c : xC) : Bool := (Nat.beq c.1 (zS k).1 && (Nat.beq c.2.1 (zS k).2.1 && Nat.beq c.2.2.length (zS k).2.2)) && (List.range (zS k).2.2).all (fun j => zsl (cond (Nat.beq (zS k).1 0) (zF (zS k).2.1 j) (zS k).2.1) k j (lget (99, 0) c.2.2 j))
/-- an object of the picture -/
theorem zck_o {ca : Nat → ClassId} {ρ : xE} {k : Nat} {c : xC} (h : zck k c = true) (h0 : (zS k).1 = 0) : xdC ca ρ c = zC ca ρ zh0 k := by
  unfold zck at h
  rw [Bool.and_eq_true, Bool.and_eq_true, Bool.and_eq_true, List.all_eq_true] at h
  obtain ⟨⟨a, b, d⟩, e⟩ := h
  have a := Nat.eq_of_beq_eq_true a
  have b := Nat.eq_of_beq_eq_true b
  have d := Nat.eq_of_beq_eq_true d
  obtain ⟨c1, c2, l⟩ := c
  have a9 : c1 = (zS k).1 := a
  have b9 : c2 = (zS k).2.1 := b
  have d9 : l.length = (zS k).2.2 := d
  rw [h0] at a9
  subst a9
  unfold zC
  rw [h0]
  show Sum.inr (c2, l.map (xD ρ)) = Sum.inr ((zS k).2.1, (List.range (zS k).2.2).map (fun j => zval ρ zh0 (zF (zS k).2.1 j) k j))
  rw [b9]
  congr 2
  refine List.ext_getElem? fun j => ?_
  rw [List.getElem?_map, List.getElem?_map, lget_e (z := (99, 0)) l j, d9]
  by_cases hj : j < (zS k).2.2
  · rw [if_pos hj, List.getElem?_range hj]
    have w := e j (List.mem_range.mpr hj)
    rw [h0] at w
    exact congrArg some (zsl_ok w)
  · rw [if_neg hj, List.getElem?_eq_none (by rw [List.length_range]; omega)]
    rfl
/-- behind an array's length -/
theorem zI0_9 {k j : Nat} (hj : 9 ≤ j) (hk : k ≠ 1) : zI0 k j = 0 := by
  unfold zI0
  rw [if_neg (by omega), if_neg (by omega), if_neg (by omega), if_neg (by omega), if_neg (by omega), if_neg (by omega), if_neg (by omega)]
theorem zS_ia : ∀ k, k < 855 → (zS k).1 = 1 → ((zS k).2.1 ≤ 2 → 9 ≤ (zS k).2.2) ∧ k ≠ 1 := by decide +kernel
theorem zS_ra : (zS 3).2.2 = 24 ∧ (zS 4).2.2 = 60 ∧ (zS 330).2.2 = 9 ∧ (zS 331).2.2 = 12 ∧ (zS 333).2.2 = 412 ∧ (zS 0).1 = 0 ∧ (zS 1).1 = 0 ∧ (zS 2).1 = 0 ∧ (zS 332).1 = 0 := by decide +kernel
theorem zR0_out {k j : Nat} (h1 : (zS k).1 = 1) (hj : (zS k).2.2 ≤ j) : zR0 k j = none := by
  obtain ⟨s3, s4, s330, s331, s333, s0, s1, s2, s332⟩ := zS_ra
  by_cases k0 : k = 0
  · subst k0; omega
  by_cases k1 : k = 1
  · subst k1; omega
  by_cases k2 : k = 2
  · subst k2; omega
  by_cases k3 : k = 3
  · subst k3
    exact if_neg (show ¬ j < 24 by omega)
  by_cases k4 : k = 4
  · subst k4
    exact if_neg (show ¬ j < 60 by omega)
  by_cases kt : 30 ≤ k ∧ k < 330
  · rw [zR0_t kt.1 kt.2]
    by_cases m0 : k % 5 = 0
    · have := zS_thing ((k - 30) / 5) (by omega)
      rw [show 30 + 5 * ((k - 30) / 5) = k by omega] at this
      rw [this] at h1
      exact absurd h1 (by decide)
    · rw [if_neg m0]
      by_cases m1 : k % 5 = 1
      · have := zS_tarr ((k - 30) / 5) (by omega)
        rw [show 31 + 5 * ((k - 30) / 5) = k by omega] at this
        rw [this] at hj
        have hj : 3 ≤ j := hj
        rw [if_pos m1, if_neg (by omega)]
      · rw [if_neg m1]
  by_cases k330 : k = 330
  · subst k330
    exact if_neg (show ¬ j < 9 by omega)
  by_cases k331 : k = 331
  · subst k331
    exact if_neg (show ¬ j < 12 by omega)
  by_cases k332 : k = 332
  · subst k332; omega
  by_cases k333 : k = 333
  · subst k333
    exact if_neg (show ¬ j < 412 by omega)
  by_cases kf : 751 ≤ k ∧ k < 781 ∧ k % 3 = 1
  · have := zS_fun ((k - 751) / 3) (by omega)
    rw [show 751 + 3 * ((k - 751) / 3) = k by omega] at this
    rw [this] at h1
    exact absurd h1 (by decide)
  by_cases kc : 781 ≤ k ∧ k < 853
  · rw [zR0_c kc.1 kc.2]
    by_cases m1 : k % 6 = 1
    · have := zS_call ((k - 781) / 6) (by omega)
      rw [show 781 + 6 * ((k - 781) / 6) = k by omega] at this
      rw [this] at h1
      exact absurd h1 (by decide)
    · rw [if_neg m1]
      by_cases m2 : k % 6 = 2
      · have := zS_carr ((k - 781) / 6) (by omega)
        rw [show 782 + 6 * ((k - 781) / 6) = k by omega] at this
        rw [this] at hj
        have hj : 4 ≤ j := hj
        rw [if_pos m2, if_neg (by omega)]
      · rw [if_neg m2]
  unfold zR0
  rw [if_neg k0, if_neg k1, if_neg k2, if_neg k3, if_neg k4, if_neg kt, if_neg k330, if_neg k331, if_neg k332, if_neg k333, if_neg kf, if_neg kc]
/-- an array of the picture -/
theorem zck_a {ca : Nat → ClassId} {ρ : xE} {k : Nat} {c : xC} (h : zck k c = true) (h1 : (zS k).1 = 1) (hk : k < 855) : xdC ca ρ c = zC ca ρ zh0 k := by
  unfold zck at h
  rw [Bool.and_eq_true, Bool.and_eq_true, Bool.and_eq_true, List.all_eq_true] at h
  obtain ⟨⟨a, b, d⟩, e⟩ := h
  have a := Nat.eq_of_beq_eq_true a
  have b := Nat.eq_of_beq_eq_true b
  have d := Nat.eq_of_beq_eq_true d
  obtain ⟨c1, c2, l⟩ := c
  have a9 : c1 = (zS k).1 := a
  have b9 : c2 = (zS k).2.1 := b
  have d9 : l.length = (zS k).2.2 := d
  rw [h1] at a9
  subst a9
  obtain ⟨n9, k1⟩ := zS_ia k hk h1
  have out : ∀ j, (zS k).2.2 ≤ j → zR0 k j = none := fun j => zR0_out h1
  have inn : ∀ j, j < (zS k).2.2 → xD ρ (lget (99, 0) l j) = zval ρ zh0 (zS k).2.1 k j := fun j hj => by
    have w := e j (List.mem_range.mpr hj)
    rw [h1] at w
    exact zsl_ok w
  have nul : ∀ j, (zS k).2.2 ≤ j → xD ρ (lget (99, 0) l j) = .null := fun j hj => by
    rw [lget_out (by omega)]
    rfl
  unfold zC
  rw [h1]
  show Sum.inl (ca c2, xdA ρ c2 l) = Sum.inl (ca (zS k).2.1, (zS k).2.2, zarr ρ zh0 (zS k).2.1 k)
  rw [b9]
  have key : xdA ρ (zS k).2.1 l = ((zS k).2.2, zarr ρ zh0 (zS k).2.1 k) := by
    unfold xdA
    rw [d9]
    congr 1
    generalize (zS k).2.1 = ty at n9 inn ⊢
    have ints : ty ≤ 2 → (fun j => xvi (xD ρ (lget (99, 0) l j))) = zI0 k := fun h2 => funext fun j => by
      by_cases hj : j < (zS k).2.2
      · rw [inn j hj]
        match ty, h2 with
        | 0, _ => rfl
        | 1, _ => rfl
        | 2, _ => rfl
      · rw [nul j (by omega), zI0_9 (by have := n9 h2; omega) k1]
        rfl
    match ty with
    | 0 => exact congrArg Sum.inl (ints (by omega))
    | 1 => exact congrArg Sum.inl (ints (by omega))
    | 2 => exact congrArg Sum.inl (ints (by omega))
    | 3 =>
      refine congrArg (fun z => Sum.inr (Sum.inl z)) (funext fun j => ?_)
      by_cases hj : j < (zS k).2.2
      · rw [inn j hj]
        rfl
      · rw [nul j (by omega)]
        rfl
    | 4 =>
      refine congrArg (fun z => Sum.inr (Sum.inr (Sum.inr (Sum.inl z)))) (funext fun j => ?_)
      by_cases hj : j < (zS k).2.2
      · rw [inn j hj]
        rfl
      · rw [nul j (by omega)]
        rfl
    | n + 5 =>
      refine congrArg (fun z => Sum.inr (Sum.inr (Sum.inr (Sum.inr z)))) (funext fun j => ?_)
      by_cases hj : j < (zS k).2.2
      · rw [inn j hj]
        show xvq (zrf ρ (zR0 k j)) = (zR0 k j).map (fun q => ρ.1 + q)
        cases zR0 k j <;> rfl
      · rw [nul j (by omega)]
        show none = (zR0 k j).map (fun q => ρ.1 + q)
        rw [out j (by omega)]
        rfl
  rw [key]
theorem zS_01 : ∀ k, k < 855 → (zS k).1 = 0 ∨ (zS k).1 = 1 := by decide +kernel
/-- the picture of the executor is the one of the rows -/
theorem zRel_0 {D : va_G} {ca : Nat → ClassId} {ρ : xE} {H0 H : Heap} {ex : Bool} {t : xT} {locs : List Loc} (hc : ∀ k, k < 855 → zck k (tget (9, 0, []) 10 t k) = true) (hR : xRel D ca ρ H0 ex 855 t H locs) : zRel D ca ρ H0 zh0 H locs := by
  obtain ⟨hP, -, -, hS, hB⟩ := hR
  refine ⟨?_, hS, hB⟩
  have e : xW ca ρ 855 t = zW ca ρ zh0 := by
    refine List.map_congr_left (fun k hk => ?_)
    have hk : k < 855 := List.mem_range.mp hk
    have h := hc k hk
    have h01 : (zS k).1 = 0 ∨ (zS k).1 = 1 := zS_01 k hk
    rcases h01 with h0 | h1
    · rw [zck_o h h0]
    · rw [zck_a h h1 hk]
  rw [← e]
  exact hP
