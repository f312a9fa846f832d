/-! THE START -/
theorem xbds_fl {ρ : xE} {k L : Nat} : xbds (k, L, xfl) ρ
  | 0 => xfullb ρ 0
  | 1 => xfullb ρ 1
  | 2 => xfullb ρ 2
  | 3 => xfullb ρ 3
  | 4 => xfullb ρ 4
  | 5 => xfullb ρ 5
  | n + 6 => xfullb ρ (n + 6)
theorem xb2_ok {ρ : xE} {p q : Int × Int} (h1 : p.1 ≤ (ρ.2.2 1).toInt ∧ (ρ.2.2 1).toInt ≤ p.2) (h3 : q.1 ≤ (ρ.2.2 3).toInt ∧ (ρ.2.2 3).toInt ≤ q.2) : xbds (xb2 p q) ρ
  | 0 => xfullb ρ 0
  | 1 => h1
  | 2 => xfullb ρ 2
  | 3 => h3
  | 4 => xfullb ρ 4
  | 5 => xfullb ρ 5
  | n + 6 => xfullb ρ (n + 6)
theorem xfive (ρ : xE) (j : Nat) : ((Int.negSucc 2147483647 : Int) ≤ (ρ.2.2 j).toInt ∧ (ρ.2.2 j).toInt ≤ Int.negSucc 0) ∨ (Int.ofNat 0 ≤ (ρ.2.2 j).toInt ∧ (ρ.2.2 j).toInt ≤ Int.ofNat 0) ∨ (Int.ofNat 1 ≤ (ρ.2.2 j).toInt ∧ (ρ.2.2 j).toInt ≤ Int.ofNat 1) ∨
    (Int.ofNat 2 ≤ (ρ.2.2 j).toInt ∧ (ρ.2.2 j).toInt ≤ Int.ofNat 2) ∨ (Int.ofNat 3 ≤ (ρ.2.2 j).toInt ∧ (ρ.2.2 j).toInt ≤ Int.ofNat 2147483647) := by
  obtain ⟨h1, h2⟩ := xfullb ρ j
  have e0 : (Int.negSucc 0) = -1 := rfl
  have e1 : (Int.ofNat 0) = 0 := rfl
  have e2 : (Int.ofNat 1) = 1 := rfl
  have e3 : (Int.ofNat 2) = 2 := rfl
  have e4 : (Int.ofNat 3) = 3 := rfl
  rw [e0, e1, e2, e3, e4]
  by_cases c0 : (ρ.2.2 j).toInt < 0
  · exact Or.inl ⟨h1, by omega⟩
  by_cases c1 : (ρ.2.2 j).toInt = 0
  · exact Or.inr (Or.inl ⟨by omega, by omega⟩)
  by_cases c2 : (ρ.2.2 j).toInt = 1
  · exact Or.inr (Or.inr (Or.inl ⟨by omega, by omega⟩))
  by_cases c3 : (ρ.2.2 j).toInt = 2
  · exact Or.inr (Or.inr (Or.inr (Or.inl ⟨by omega, by omega⟩)))
  exact Or.inr (Or.inr (Or.inr (Or.inr ⟨by omega, h2⟩)))
theorem xb3_ok {ρ : xE} {p q : Int × Int} (h1 : p.1 ≤ (ρ.2.2 1).toInt ∧ (ρ.2.2 1).toInt ≤ p.2) (h2 : q.1 ≤ (ρ.2.2 2).toInt ∧ (ρ.2.2 2).toInt ≤ q.2) : xbds (xb3 p q) ρ
  | 0 => xfullb ρ 0
  | 1 => h1
  | 2 => h2
  | 3 => xfullb ρ 3
  | 4 => xfullb ρ 4
  | 5 => xfullb ρ 5
  | n + 6 => xfullb ρ (n + 6)
theorem xten (ρ : xE) (j : Nat) : ((Int.negSucc 2147483647 : Int) ≤ (ρ.2.2 j).toInt ∧ (ρ.2.2 j).toInt ≤ Int.negSucc 0) ∨ (Int.ofNat 0 ≤ (ρ.2.2 j).toInt ∧ (ρ.2.2 j).toInt ≤ Int.ofNat 0) ∨ (Int.ofNat 1 ≤ (ρ.2.2 j).toInt ∧ (ρ.2.2 j).toInt ≤ Int.ofNat 1) ∨ (Int.ofNat 2 ≤ (ρ.2.2 j).toInt ∧ (ρ.2.2 j).toInt ≤ Int.ofNat 2) ∨ (Int.ofNat 3 ≤ (ρ.2.2 j).toInt ∧ (ρ.2.2 j).toInt ≤ Int.ofNat 3) ∨ (Int.ofNat 4 ≤ (ρ.2.2 j).toInt ∧ (ρ.2.2 j).toInt ≤ Int.ofNat 4) ∨ (Int.ofNat 5 ≤ (ρ.2.2 j).toInt ∧ (ρ.2.2 j).toInt ≤ Int.ofNat 5) ∨ (Int.ofNat 6 ≤ (ρ.2.2 j).toInt ∧ (ρ.2.2 j).toInt ≤ Int.ofNat 6) ∨ (Int.ofNat 7 ≤ (ρ.2.2 j).toInt ∧ (ρ.2.2 j).toInt ≤ Int.ofNat 7) ∨ (Int.ofNat 8 ≤ (ρ.2.2 j).toInt ∧ (ρ.2.2 j).toInt ≤ Int.ofNat 2147483647) := by
  obtain ⟨h1, h2⟩ := xfullb ρ j
  have e0 : (Int.negSucc 0) = -1 := rfl
  have f0 : (Int.ofNat 0) = 0 := rfl
  have f1 : (Int.ofNat 1) = 1 := rfl
  have f2 : (Int.ofNat 2) = 2 := rfl
  have f3 : (Int.ofNat 3) = 3 := rfl
  have f4 : (Int.ofNat 4) = 4 := rfl
  have f5 : (Int.ofNat 5) = 5 := rfl
  have f6 : (Int.ofNat 6) = 6 := rfl
  have f7 : (Int.ofNat 7) = 7 := rfl
  have f8 : (Int.ofNat 8) = 8 := rfl
  rw [e0, f0, f1, f2, f3, f4, f5, f6, f7, f8]
  by_cases c0 : (ρ.2.2 j).toInt < 0
  · exact Or.inl ⟨h1, by omega⟩
  by_cases d0 : (ρ.2.2 j).toInt = 0
  · exact Or.inr (Or.inl ⟨by omega, by omega⟩)
  by_cases d1 : (ρ.2.2 j).toInt = 1
  · exact Or.inr (Or.inr (Or.inl ⟨by omega, by omega⟩))
  by_cases d2 : (ρ.2.2 j).toInt = 2
  · exact Or.inr (Or.inr (Or.inr (Or.inl ⟨by omega, by omega⟩)))
  by_cases d3 : (ρ.2.2 j).toInt = 3
  · exact Or.inr (Or.inr (Or.inr (Or.inr (Or.inl ⟨by omega, by omega⟩))))
  by_cases d4 : (ρ.2.2 j).toInt = 4
  · exact Or.inr (Or.inr (Or.inr (Or.inr (Or.inr (Or.inl ⟨by omega, by omega⟩)))))
  by_cases d5 : (ρ.2.2 j).toInt = 5
  · exact Or.inr (Or.inr (Or.inr (Or.inr (Or.inr (Or.inr (Or.inl ⟨by omega, by omega⟩))))))
  by_cases d6 : (ρ.2.2 j).toInt = 6
  · exact Or.inr (Or.inr (Or.inr (Or.inr (Or.inr (Or.inr (Or.inr (Or.inl ⟨by omega, by omega⟩)))))))
  by_cases d7 : (ρ.2.2 j).toInt = 7
  · exact Or.inr (Or.inr (Or.inr (Or.inr (Or.inr (Or.inr (Or.inr (Or.inr (Or.inl ⟨by omega, by omega⟩))))))))
  exact Or.inr (Or.inr (Or.inr (Or.inr (Or.inr (Or.inr (Or.inr (Or.inr (Or.inr (⟨by omega, h2⟩)))))))))
theorem xr12 (ρ : xE) : ∃ Bs B, xallB 6 Bs = true ∧ B ∈ Bs ∧ xbds B ρ ∧ B.1 = 12 ∧ B.2.1 = 6 := by
  rcases xfive ρ 1 with h1 | h1 | h1 | h1 | h1
  · exact ⟨_, _, xr12o, List.mem_cons_self, xb2_ok h1 (xfullb ρ 3), rfl, rfl⟩
  · rcases xten ρ 2 with h2 | h2 | h2 | h2 | h2 | h2 | h2 | h2 | h2 | h2
    · exact ⟨_, _, xr12_0o, List.mem_cons_self, xb3_ok h1 h2, rfl, rfl⟩
    · exact ⟨_, _, xr12_00, List.mem_cons_self, xb3_ok h1 h2, rfl, rfl⟩
    · exact ⟨_, _, xr12_01, List.mem_cons_self, xb3_ok h1 h2, rfl, rfl⟩
    · exact ⟨_, _, xr12_02, List.mem_cons_self, xb3_ok h1 h2, rfl, rfl⟩
    · exact ⟨_, _, xr12_03, List.mem_cons_self, xb3_ok h1 h2, rfl, rfl⟩
    · exact ⟨_, _, xr12_04, List.mem_cons_self, xb3_ok h1 h2, rfl, rfl⟩
    · exact ⟨_, _, xr12_05, List.mem_cons_self, xb3_ok h1 h2, rfl, rfl⟩
    · exact ⟨_, _, xr12_06, List.mem_cons_self, xb3_ok h1 h2, rfl, rfl⟩
    · exact ⟨_, _, xr12_07, List.mem_cons_self, xb3_ok h1 h2, rfl, rfl⟩
    · exact ⟨_, _, xr12_0o, List.mem_cons_of_mem _ List.mem_cons_self, xb3_ok h1 h2, rfl, rfl⟩
  · rcases xten ρ 2 with h2 | h2 | h2 | h2 | h2 | h2 | h2 | h2 | h2 | h2
    · exact ⟨_, _, xr12_1o, List.mem_cons_self, xb3_ok h1 h2, rfl, rfl⟩
    · exact ⟨_, _, xr12_10, List.mem_cons_self, xb3_ok h1 h2, rfl, rfl⟩
    · exact ⟨_, _, xr12_11, List.mem_cons_self, xb3_ok h1 h2, rfl, rfl⟩
    · exact ⟨_, _, xr12_12, List.mem_cons_self, xb3_ok h1 h2, rfl, rfl⟩
    · exact ⟨_, _, xr12_13, List.mem_cons_self, xb3_ok h1 h2, rfl, rfl⟩
    · exact ⟨_, _, xr12_14, List.mem_cons_self, xb3_ok h1 h2, rfl, rfl⟩
    · exact ⟨_, _, xr12_15, List.mem_cons_self, xb3_ok h1 h2, rfl, rfl⟩
    · exact ⟨_, _, xr12_16, List.mem_cons_self, xb3_ok h1 h2, rfl, rfl⟩
    · exact ⟨_, _, xr12_17, List.mem_cons_self, xb3_ok h1 h2, rfl, rfl⟩
    · exact ⟨_, _, xr12_1o, List.mem_cons_of_mem _ List.mem_cons_self, xb3_ok h1 h2, rfl, rfl⟩
  · rcases xten ρ 2 with h2 | h2 | h2 | h2 | h2 | h2 | h2 | h2 | h2 | h2
    · exact ⟨_, _, xr12_2o, List.mem_cons_self, xb3_ok h1 h2, rfl, rfl⟩
    · exact ⟨_, _, xr12_20, List.mem_cons_self, xb3_ok h1 h2, rfl, rfl⟩
    · exact ⟨_, _, xr12_21, List.mem_cons_self, xb3_ok h1 h2, rfl, rfl⟩
    · exact ⟨_, _, xr12_22, List.mem_cons_self, xb3_ok h1 h2, rfl, rfl⟩
    · exact ⟨_, _, xr12_23, List.mem_cons_self, xb3_ok h1 h2, rfl, rfl⟩
    · exact ⟨_, _, xr12_24, List.mem_cons_self, xb3_ok h1 h2, rfl, rfl⟩
    · exact ⟨_, _, xr12_25, List.mem_cons_self, xb3_ok h1 h2, rfl, rfl⟩
    · exact ⟨_, _, xr12_26, List.mem_cons_self, xb3_ok h1 h2, rfl, rfl⟩
    · exact ⟨_, _, xr12_27, List.mem_cons_self, xb3_ok h1 h2, rfl, rfl⟩
    · exact ⟨_, _, xr12_2o, List.mem_cons_of_mem _ List.mem_cons_self, xb3_ok h1 h2, rfl, rfl⟩
  · exact ⟨_, _, xr12o, List.mem_cons_of_mem _ List.mem_cons_self, xb2_ok h1 (xfullb ρ 3), rfl, rfl⟩
theorem xop32 (x : Int32) : ∃ k, k < 32 ∧ x &&& 31 = Int32.ofInt (Int.ofNat k) := by
  have key : ∀ y : BitVec 32, (y &&& 31#32).toNat < 32 := fun y => by
    rw [BitVec.toNat_and]
    exact Nat.lt_of_le_of_lt Nat.and_le_right (by decide)
  refine ⟨(x.toBitVec &&& 31#32).toNat, key _, Int32.toBitVec_inj.mp ?_⟩
  rw [Int32.toBitVec_and]
  show x.toBitVec &&& 31#32 = BitVec.ofInt 32 (((x.toBitVec &&& 31#32).toNat : Nat) : Int)
  rw [BitVec.ofInt_natCast]
  simp
/-- for every script there is a run that was decided -/
theorem xruns (ρ : xE) {L : Nat} (hL : L ≤ 6) : ∃ Bs B, xallB L Bs = true ∧ B ∈ Bs ∧ xbds B ρ ∧ (B.1 < 32 → ρ.2.2 0 &&& 31 = Int32.ofInt (Int.ofNat B.1)) ∧ B.2.1 = L := by
  by_cases h : L < 6
  · exact ⟨_, _, xlens L h, List.mem_cons_self, xbds_nil, fun q => absurd q (by show ¬ 32 < 32; omega), rfl⟩
  · obtain rfl : L = 6 := by omega
    obtain ⟨k, hk, ho⟩ := xop32 (ρ.2.2 0)
    by_cases e : k = 12
    · subst e
      obtain ⟨Bs, B, h1, h2, h3, h4, h5⟩ := xr12 ρ
      exact ⟨Bs, B, h1, h2, h3, fun _ => by rw [h4]; exact ho, h5⟩
    · obtain ⟨Bs, h1, h2⟩ := xops k hk e
      exact ⟨Bs, _, h1, h2, xbds_fl, fun _ => ho, rfl⟩
/-! the world at the law's entry -/
theorem xwi : ∀ ci, ci < 11 → Cond.instantiable (xcC ci) (xcN ci) ∈ lw_tbl
  | 0, _ => List.mem_of_getElem? (i := 295) (by decide +kernel)
  | 1, _ => List.mem_of_getElem? (i := 249) (by decide +kernel)
  | 2, _ => List.mem_of_getElem? (i := 109) (by decide +kernel)
  | 3, _ => List.mem_of_getElem? (i := 103) (by decide +kernel)
  | 4, _ => List.mem_of_getElem? (i := 229) (by decide +kernel)
  | 5, _ => List.mem_of_getElem? (i := 166) (by decide +kernel)
  | 6, _ => List.mem_of_getElem? (i := 118) (by decide +kernel)
  | 7, _ => List.mem_of_getElem? (i := 95) (by decide +kernel)
  | 8, _ => List.mem_of_getElem? (i := 1403) (by decide +kernel)
  | 9, _ => List.mem_of_getElem? (i := 1246) (by decide +kernel)
  | 10, _ => List.mem_of_getElem? (i := 1234) (by decide +kernel)
  | n + 11, h => absurd h (by omega)
theorem xwp : ∀ i, i < 5 → Cond.arrayClass (xtyF i) ∈ lw_tbl
  | 0, _ => List.mem_of_getElem? (i := 293) (by decide +kernel)
  | 1, _ => List.mem_of_getElem? (i := 294) (by decide +kernel)
  | 2, _ => List.mem_of_getElem? (i := 1268) (by decide +kernel)
  | 3, _ => List.mem_of_getElem? (i := 1716) (by decide +kernel)
  | 4, _ => List.mem_of_getElem? (i := 1717) (by decide +kernel)
  | n + 5, h => absurd h (by omega)
theorem xwo : ∀ i, i ≤ 5 → Cond.arrayOver (.object (xtyC i)) ∈ lw_tbl
  | 0, _ => List.mem_of_getElem? (i := 115) (by decide +kernel)
  | 1, _ => List.mem_of_getElem? (i := 117) (by decide +kernel)
  | 2, _ => List.mem_of_getElem? (i := 225) (by decide +kernel)
  | 3, _ => List.mem_of_getElem? (i := 227) (by decide +kernel)
  | 4, _ => List.mem_of_getElem? (i := 1240) (by decide +kernel)
  | 5, _ => List.mem_of_getElem? (i := 1242) (by decide +kernel)
  | n + 6, h => absurd h (by omega)
theorem xws1 : Cond.laysStatic Bundle.tN "UNASSIGNED_STACK" Bundle.steD ∈ lw_tbl := List.mem_of_getElem? (i := 534) (by decide +kernel)
theorem xws2 : Cond.laysStatic Bundle.tN "SUPPRESSED_SENTINEL" Bundle.listD ∈ lw_tbl := List.mem_of_getElem? (i := 536) (by decide +kernel)
theorem xws3 : Cond.initialized Bundle.tN ∈ lw_tbl := List.mem_of_getElem? (i := 72) (by decide +kernel)
theorem xwf1 : Cond.isRef (.static Bundle.tN "UNASSIGNED_STACK" Bundle.steD) ∈ flatC (Jvm.Cond.and given_1 narrow_1) := by decide +kernel
theorem xwf2 : Cond.isRef (.static Bundle.tN "SUPPRESSED_SENTINEL" Bundle.listD) ∈ flatC (Jvm.Cond.and given_1 narrow_1) := by decide +kernel
theorem xwf3 : Cond.not (.castable "java/lang/UnsupportedOperationException" "java/lang/IndexOutOfBoundsException") ∈ flatC (Jvm.Cond.and given_1 narrow_1) := by decide +kernel
theorem xwf4 : Cond.not (.castable "java/util/NoSuchElementException" "java/lang/IndexOutOfBoundsException") ∈ flatC (Jvm.Cond.and given_1 narrow_1) := by decide +kernel
section XSA
variable {s : State} {args : Array Value}
theorem xarrP {F : FieldType} (hF : ∀ C, F ≠ .object C) (h : (Cond.arrayClass F).before args s = true) : ∃ cA : ClassId, ArrOfT s cA F ∧ va_RA s cA F := by
  obtain ⟨cA, kA, comp, h1, h2, h3⟩ := Cond.arrayClass_spec h
  refine ⟨cA, fun n z => ⟨fun k h => (by cases h), kA, h2, comp, h3⟩, ?_⟩
  cases F with
  | object C => exact absurd rfl (hF C)
  | _ => exact h1
theorem xarrO {C : String} (h : va_AO C s) : ∃ cA : ClassId, ArrOfT s cA (.object C) ∧ va_RA s cA (.object C) := by
  obtain ⟨comp, cA, kA, h1, h2, h3, h4, h5⟩ := Cond.arrayOver_spec (va_AO.use (A := #[]) h)
  exact ⟨cA, fun n z => ⟨fun k h => (by cases h), kA, h3, comp, h4⟩, kA, comp, h3, h4, h1, h5⟩
theorem xstrR {own tx : String} {i : Nat} (h : (Cond.stringRef own i tx).before args s = true) : ∃ sa, vk_R own i tx sa s := by
  cases hc : s.vm.findClass own with
  | none =>
    exfalso
    simp [Cond.before, Cond.holds, Cond.value, hc] at h
  | some cur =>
    obtain ⟨k, cf, j, sa, -, -, -, -, -, he⟩ := Cond.stringRef_spec hc h
    exact ⟨sa, vk_R.of h he⟩
theorem xarrK (hts : ∀ w ∈ lw_tbl, w.before args s = true) : ∀ i, i ≤ 10 → ∃ cA : ClassId, ArrOfT s cA (xtyF i) ∧ va_RA s cA (xtyF i)
  | 0, _ => xarrP (fun C h => by cases h) (hts _ (xwp 0 (by omega)))
  | 1, _ => xarrP (fun C h => by cases h) (hts _ (xwp 1 (by omega)))
  | 2, _ => xarrP (fun C h => by cases h) (hts _ (xwp 2 (by omega)))
  | 3, _ => xarrP (fun C h => by cases h) (hts _ (xwp 3 (by omega)))
  | 4, _ => xarrP (fun C h => by cases h) (hts _ (xwp 4 (by omega)))
  | 5, _ => xarrO (va_AO.of (hts _ (xwo 0 (by omega))))
  | 6, _ => xarrO (va_AO.of (hts _ (xwo 1 (by omega))))
  | 7, _ => xarrO (va_AO.of (hts _ (xwo 2 (by omega))))
  | 8, _ => xarrO (va_AO.of (hts _ (xwo 3 (by omega))))
  | 9, _ => xarrO (va_AO.of (hts _ (xwo 4 (by omega))))
  | 10, _ => xarrO (va_AO.of (hts _ (xwo 5 (by omega))))
  | n + 11, h => absurd h (by omega)
theorem xworld0 (hts : ∀ w ∈ lw_tbl, w.before args s = true) (hgv : (Jvm.Cond.and given_1 narrow_1).before args s = true) : ∃ (D : va_G) (ca : Nat → ClassId), ∀ ρ : xE, ρ.1 = s.heap.size → xWorld D ca ρ s := by
  have hg := flat_of_before _ hgv
  have hK : ∀ ci : Nat, ∃ z : ClassId × (Nat → Nat), ci < 11 → u_Kn s (xcC ci) (xcT ci) (xcN ci) z.1 z.2 := by
    intro ci
    by_cases h : ci < 11
    · obtain ⟨c0, i0, h0⟩ := u_known (C := xcC ci) (T := xcT ci) (N := xcN ci) (n := xcN ci) hts (fun w hw => (List.mem_filter.mp ((xfacts (ρ := (0, 0, fun _ => 0)) h).2.1 w hw)).1) (hts _ (xwi ci h))
      exact ⟨(c0, i0), fun _ => h0⟩
    · exact ⟨(0, fun _ => 0), fun q => absurd q h⟩
  have hA : ∀ i : Nat, ∃ cA : ClassId, i ≤ 10 → ArrOfT s cA (xtyF i) ∧ va_RA s cA (xtyF i) := by
    intro i
    by_cases h : i ≤ 10
    · obtain ⟨cA, hc⟩ := xarrK hts i h
      exact ⟨cA, fun _ => hc⟩
    · exact ⟨0, fun q => absurd q h⟩
  obtain ⟨z, hz⟩ := Classical.axiomOfChoice hK
  obtain ⟨ca, hca⟩ := Classical.axiomOfChoice hA
  refine ⟨(fun k => (z k).1, fun k => (z k).2), ca, fun ρ hρ => ⟨⟨fun ci q hq => ?_, fun i q hq => ?_⟩, fun w hw hn => va_Nw.of (xonT hn) (hts w hw), fun i hi => va_AO.of (hts _ (xwo i hi)), fun own i tx hw => xstrR (hts _ hw), ⟨va_Nc.of (hg _ xwf3), va_Nc.of (hg _ xwf4)⟩, ?_, ?_⟩⟩
  · have hci : ci < 11 := by
      have := (List.getElem?_eq_some_iff.mp hq).1
      simpa [xcl] using this
    have h1 := (xfacts (ρ := ρ) hci).1
    rw [h1] at hq
    cases hq
    exact hz ci hci
  · have hi : i ≤ 10 := by
      have := (List.getElem?_eq_some_iff.mp hq).1
      simp [xtys] at this
      omega
    have h1 := xtys_at ca hi
    rw [h1] at hq
    cases hq
    exact hca i hi
  · exact vx_Zqof (hts _ xws1) (hts _ xws3) (hg _ xwf1) (fun a ha h => by have h : ρ.1 ≤ a := h; omega)
  · exact vx_Zqof (hts _ xws2) (hts _ xws3) (hg _ xwf2) (fun a ha h => by have h : ρ.1 ≤ a := h; omega)
end XSA
/-! THE CLAIM OUT OF ONE WALK OF THE LAW'S BODY. Your part is whole_start (and what it stands on); all else here is the same for every law, but numbers. -/
def R_law : String := "PolyglotPierLaw"
def lw_P (b : Addr) (xs : List Int32) (args : Array Value) (s : State) : Prop := args = #[.ref b] ∧ s.IntsAt b xs ∧ xs.length ≤ 6 ∧ (Jvm.Cond.and given_1 narrow_1).before args s = true
/-- what a walk over the start with the record d0 says of its end, said of the start itself -/
theorem lw_closed {s t : State} {o : Outcome} {d0 : Drawn} {L : List Loc} {k n : Nat} (hd0 : s.drawn.sameBut d0 lw_cs) (hv : ∃ v, o = .returned v) (hW : (s.setDrawn d0).WarmedH t.vm) (hs : (s.setDrawn d0).sameButNew ({ t with vm := s.vm } : State) L k n) : State.butDraws s t lw_cs (fun t1 => Framed s o t1 L k n) := by
  have h2 : t.drawn = d0 := congrArg State.drawn hs.1
  refine ⟨⟨hv, hW, State.sameButNew.setDrawn hs s.drawn⟩, ?_, by decide⟩
  rw [h2]
  exact hd0
def lw_Q (_ : Array Value) (s : State) (o : Outcome) (t : State) : Prop := o = .returned (some (.int 1)) ∧ State.butDraws s t lw_cs (fun t1 => Framed s o t1 [] 622608 7234241)
def lw_Z (below : List Frame) (a : Array Value) (s : State) : State → Prop := fun t => ∃ o, t.status = .running ∧ Ended t below o ∧ lw_Q a s o t
/-- the law's own end, with 1 on the stack, nothing written that was there before, its room as the claim has it; d0: the record of draws at this point (at the entry s.drawn: begin with 'refine W.base ?_' and 'have hd0 := Drawn.sameBut.refl s.drawn lw_cs') -/
theorem lw_ret {p : Program} {l : Launch} {e : Env} {s : State} {m : MethodId} {below : List Frame} {meth : Method} {c : Code} {b : Nat} {d0 : Drawn} (hd0 : s.drawn.sameBut d0 lw_cs) (hx : p.tables.exec = Jvm.exec) (hb : c.code = code) (hr : meth.sig.returnType = ret) (hlocks : meth.locks = false) {pc : Nat} {H : Heap} {ls : Array Slot} (hdg : decode code pc = .ok (.ireturn, 1)) : W p l e room_1 (s.setDrawn d0) m #[Value.ref b] below meth c H [] 622608 7234241 (lw_Z below #[Value.ref b] s) (F0 m pc ls [.int 1]) := by
  intro T hT X
  obtain ⟨fs, hret, hrun, hended, hW, hframe⟩ := X.leave (v := some (.int 1)) (hlocks := hlocks) (fun h => by rw [hr] at h; cases h)
  have hmeth' : T.vm.method? m = some meth := X.method'
  refine ⟨T.setFrames fs, ?_, .returned (some (.int 1)), hrun, hended, rfl, lw_closed hd0 ⟨_, rfl⟩ hW hframe⟩
  jvm_step X.here [X.here.top, hx, hb, hdg, hmeth', hr, ret, narrow_b1]
  (try refine ⟨rfl, ?_⟩); (try refine ⟨rfl, ?_⟩)
  first | (intro acts; rw [hret _ acts rfl rfl rfl]) | rw [hret _ _ rfl rfl rfl]
  exact Steps.refl _
/-- what holds at the law's entry: the machine, the code, the tables' words (any of lw_tbl by 'hts w (by decide +kernel)'), the script of L ints xs at the cell b, what the Statement gives of the start (any of its parts by flat_of_before) -/
def lw_At (p : Program) (s : State) (m : MethodId) (meth : Method) (c : Code) (b L : Nat) (xs : Nat → Int32) : Prop :=
  p.tables.exec = Jvm.exec ∧ c.code = code ∧ meth.sig.returnType = ret ∧ c.maxLocals = 9 ∧ s.vm.findClass R_law = some m.cls ∧ (∀ w ∈ lw_tbl, w.before #[Value.ref b] s = true) ∧ va_X b L xs s s.heap ∧ b < s.heap.size ∧ meth.locks = false ∧ meth.name = "law" ∧ (Jvm.Cond.and given_1 narrow_1).before #[Value.ref b] s = true
section XLW
variable {p : Program} {l : Launch} {e : Env} {s : State} {m : MethodId} {below : List Frame} {meth : Method} {c : Code} {D : va_G} {ca : Nat → ClassId} {ρ : xE} {H0 : Heap} {b : Nat}
theorem law_end (hx : p.tables.exec = Jvm.exec) (hb : c.code = code) (hret : meth.sig.returnType = ret) (hlocks : meth.locks = false) (hρ : ρ.1 = s.heap.size) {r : xO} (h1 : r.1 = 1) (hv : r.2.1 = 1) (ho : xone (rst r) = true) :
    xEnd p l e room_1 s m #[Value.ref b] below meth c (lw_Z below #[Value.ref b] s) D ca ρ H0 9 code xlaw.2 r := by
  refine ⟨fun _ ⟨ins, his, hd⟩ ha hb2 H locs lsA hR hL => ?_, fun h2 => ?_, fun h3 => ?_⟩
  · rw [hv] at his
    obtain rfl := xisr1 his
    have hst : (rst r).map (xD ρ) = [Value.int 1] := by rw [xone_ok ho]; rfl
    rw [hst]
    exact va_forget (fun q hq => by rw [← hρ]; exact hR.2.2.2.1.2.2 q hq) (W.widen (show ra r ≤ 622608 from ha) (show rb r ≤ 7234241 from hb2) (W.base (lw_ret (Drawn.sameBut.refl s.drawn lw_cs) hx hb hret hlocks hd)))
  · rw [h1] at h2
    cases h2
  · rw [h1] at h3
    cases h3
end XLW
/-- from the entry, for every script of at most 6 ints, the law comes to its end with true -/
theorem whole_start {p : Program} {e : Env} {s : State} {m : MethodId} {below : List Frame} {meth : Method} {c : Code} (l : Launch) (hflags : l.flags = flags0) {b L : Nat} {xs : Nat → Int32} (hL : L ≤ 6) (C0 : lw_At p s m meth c b L xs) : W p l e room_1 s m #[Value.ref b] below meth c s.heap [] 0 0 (lw_Z below #[Value.ref b] s) (entryFrame m ([Value.ref b] : List Value).toArray 9) := by
  obtain ⟨hx, hb, hr, hml, hown, hts, hX, hbl, hlocks, hnm, hgv⟩ := id C0
  obtain ⟨D, ca, hWorld⟩ := xworld0 hts hgv
  have hl : l.stackTraces = false := by
    show (!(l.flags.contains noTraceFlag)) = false
    rw [hflags]
    decide +kernel
  obtain ⟨ρ, hρ⟩ : ∃ ρ : xE, ρ = (s.heap.size, b, xs) := ⟨_, rfl⟩
  have e1 : ρ.1 = s.heap.size := by rw [hρ]
  have e2 : ρ.2.1 = b := by rw [hρ]
  have e3 : ρ.2.2 = xs := by rw [hρ]
  have hbl2 : ρ.2.1 < s.heap.size := by rw [e2]; exact hbl
  have hC : ∀ B : xB, xbds B ρ → (B.1 < 32 → ρ.2.2 0 &&& 31 = Int32.ofInt (Int.ofNat B.1)) → B.2.1 = L → xCtx p l room_1 s m #[Value.ref b] meth c D ca ρ s.heap 9 code RL "law" 10 xlaw.2 B (xcall xmeths B 100000 10) := fun B h1 h2 h3 =>
    ⟨⟨hx, hb, hml, hown, hnm⟩, fun w hw => hts w (List.mem_filter.mp hw).1, ⟨hWorld ρ e1, by rw [e2, e3, h3]; exact hX, hbl2, fun q _ => rfl⟩, ⟨h1, h2⟩, ⟨by decide, by decide, rfl, rfl⟩, xcon_of hl hbl2 ⟨h1, h2⟩ 100000 10⟩
  have hRel : xRel D ca ρ s.heap true 0 (.leaf (9, 0, [])) s.heap [] := ⟨fun k q h => by simp [xW] at h, by omega, fun _ => by rw [e1]; rfl, va_S.rf, e1⟩
  have hl0 := lv_entry ([.ref b]) (n := 9) (Nat.le_of_ble_eq_true rfl)
  rw [lg_entry_eq]
  generalize (lg_sl ([.ref b]) ++ List.replicate (9 - (lg_sl ([.ref b])).length) Slot.unset).toArray = lsA at hl0 ⊢
  have hl1 : lv_has lsA 9 (xM ρ [(0, 10, Int.ofNat 0)]) := by
    have e4 : xM ρ [(0, 10, Int.ofNat 0)] = [(0, .ref ρ.2.1)] := rfl
    rw [e4, e2]
    exact hl0
  obtain ⟨Bs, B, h1, h2, h3, h4, h5⟩ := xruns ρ hL
  exact xallB_ok (e := e) (below := below) (Q := lw_Z below #[Value.ref b] s) hC (fun r g1 g2 g3 => law_end hx hb hr hlocks e1 g1 g2 g3) h1 h2 h3 h4 h5 s.heap [] lsA hRel hl1
-- ===== YOUR PART ENDS =====
set_option maxHeartbeats 4000000 in
theorem lw_walk (l : Launch) (hflags : l.flags = flags0) (b : Addr) (xs : List Int32) : MetFree l x (headSpec (Jvm.Cond.code x code maxLocals ret :: tables_1) room_1) (lw_P b xs) (fun _ _ _ _ _ => True) lw_Q := by
  refine MetFree.of_bodyS (code := code) (maxLocals := maxLocals) (ret := ret) (by decide) ?_ ?_
  · intro args s m h hn
    obtain ⟨meth, c, h1, h2, h3, h4, h5, h6, -, -⟩ := Cond.code_spec hn (atoms_spec (ws := Jvm.Cond.code x code maxLocals ret :: tables_1) h _ List.mem_cons_self)
    exact ⟨meth, c, h1, h2, h3, h4, h5, h6⟩
  · intro p e s m args below meth c s₁ B hml0 hP _
    obtain ⟨rfl, hx, hbd, hgv⟩ := hP
    obtain ⟨scr, harrAt, hlist, hof, hsmall⟩ := hx
    obtain ⟨hcb, hkn, -, -⟩ := State.arrayAt?_spec harrAt
    have hown : s.vm.findClass R_law = some m.cls := findClass_of_methodNamed B.named
    have hts0 : ∀ c ∈ (Jvm.Cond.code x code maxLocals ret :: tables_1), c.before #[Value.ref b] s = true := atoms_spec (ws := Jvm.Cond.code x code maxLocals ret :: tables_1) B.pre
    have hts : ∀ w ∈ lw_tbl, w.before #[Value.ref b] s = true := k2_hts_sels lw_privs (fun w hw => hts0 w (List.mem_cons_of_mem _ hw)) lw_privs_ok
    have hml : c.maxLocals = 9 := B.maxLocals_eq (hts0 _ List.mem_cons_self)
    have X₀ : Stand p l e room_1 s m #[Value.ref b] below meth c s₁ [] 0 0 := Stand.of_body B
    have hh0 : s₁.heap = s.heap := by rw [B.state]; rfl
    have hsz : scr.slots.size = xs.length := by rw [← Array.length_toList, hlist, List.length_map]
    have hval : ∀ j : Nat, j < xs.length → scr.slots[j]? = some (.int (xs.getD j 0)) := fun j hj => by
      rw [← Array.getElem?_toList, hlist]
      simp [hj]
    have hbl : b < s.heap.size := (Array.getElem?_eq_some_iff.mp hcb).1
    have hX : va_X b xs.length (fun j => xs.getD j 0) s s.heap := ⟨scr, hcb, hof, hkn, hsz, hval⟩
    have K : W p l e room_1 s m #[Value.ref b] below meth c s₁.heap [] 0 0 (lw_Z below #[Value.ref b] s) (entryFrame m ([Value.ref b] : List Value).toArray 9) := by
      rw [hh0]
      exact whole_start l hflags hbd ⟨B.exec, B.bytes, B.returns, hml, hown, hts, hX, hbl, B.notSynchronized, (name_of_methodNamed B.named B.method).1, hgv⟩
    obtain ⟨t, a1, o, b1, b2, b3⟩ := K s₁ rfl X₀
    exact ⟨t, o, a1, b1, b2, b3⟩
theorem lw_pre_spec {args : Array Value} {s : State} (h : (Jvm.Cond.and given_1 narrow_1).before args s = true) (hr : rest_1_c.before args s = true) : ∃ (b : Addr) (xs : List Int32), lw_P b xs args s := by
  have hs := flat_of_before _ h
  have hq := flat_of_before _ hr
  have hc : (Cond.count 1).before args s = true := hs _ (by decide +kernel)
  have harr : (Cond.arrayOf (.arg 0) .int).before args s = true := hs _ (by decide +kernel)
  have hle : (Cond.le (.length (.arg 0)) (.int 6)).before args s = true := hs _ (by decide +kernel)
  have hlen : (Cond.isInt (.length (.arg 0))).before args s = true := hq _ (by decide +kernel)
  have hall : (Cond.all (.arg 0) (.isInt (.elem (.arg 0) (.index 0)))).before args s = true := hq _ (by decide +kernel)
  obtain ⟨b, xs, hb, hx⟩ := State.ints_of_pre rfl harr hlen hall
  have hsm : xs.length < 2 ^ 31 := hx.choose_spec.2.2.2
  have hev : (Term.length (.arg 0)).eval args s none [] s = some (.int xs.length.toInt32) := hx.length_eval hb
  have hv := Cond.le_ints hev (show (Term.int 6).eval args s none [] s = some (.int 6) from rfl)
  have hd : xs.length.toInt32 ≤ 6 := by
    simpa [Cond.before, Cond.holds, hv] using hle
  have hN : xs.length ≤ 6 := (Int32.ofNat_le_ofNat hsm (by decide)).mp (show Int32.ofNat xs.length ≤ Int32.ofNat 6 from hd)
  exact ⟨b, xs, Cond.one_arg hc (show args[0]? = some (.ref b) from hb), hx, hN, h⟩
theorem lw_comes (l : Launch) (hflags : l.flags = flags0) : Comes l x (Jvm.Cond.code x code maxLocals ret :: tables_1) room_1 (fun tb e args s => Calls_1 tb e args s ∧ rest_1 tb e args s ∧ Pre_1 tb e args s)
    (fun _ _ args s o t => lw_Q args s o t) := by
  intro p e ha hc hk s m args below hf hfit hheap happ hpre
  obtain ⟨b, xs, hP⟩ := lw_pre_spec hpre.2.2 hpre.2.1
  obtain ⟨k, o, h1, h2, h3, hQ⟩ := lw_walk l hflags b xs p e ha hc hk s m args below hf ((Spec.applies_iff_loose hf).mp happ).1 hP trivial
  exact ⟨k, o, h1, h2, h3, hQ⟩
theorem lw_frame {s t : State} {o : Outcome} {args : Array Value} (h : State.butDraws s t lw_cs (fun t1 => Framed s o t1 [] 622608 7234241)) :
    State.butDraws s t [Jvm.Choice.named "NaN.bits", Jvm.Choice.named "NaN.copy"] (fun t1 => Framed s o t1 (fieldLocs frame_1_writes args s ++ arrayLocs frame_1_arrays args s ++ staticLocs frame_1_statics s) 622608 7234241) := h
theorem lw_limb (L : Cond) (hL : ∀ (args : Array Value) (s t : State), L.after args s (.returned (some (.int 1))) t = true) :
    ArmFor flags0 classFile x code maxLocals ret World_1 tables_1 room_1 Calls_1 rest_1 Pre_1
      (fun tb e a s o t => postC L tb e a s o t ∧ State.butDraws s t [Jvm.Choice.named "NaN.bits", Jvm.Choice.named "NaN.copy"] (fun t1 => Framed s o t1 (fieldLocs frame_1_writes a s ++ arrayLocs frame_1_arrays a s ++ staticLocs frame_1_statics s) 622608 7234241)) := by
  intro l hflags _ _ p e ha hc hk s m args below hf hfit hheap happ hpre
  obtain ⟨k, o, h1, h2, h3, rfl, hF⟩ := lw_comes l hflags p e ha hc hk s m args below hf hfit hheap happ hpre
  exact ⟨k, _, h1, h2, h3, hL args s _, lw_frame hF⟩
theorem i_vc : Claimed_1_1 ∧ Claimed_1_2 := ⟨lw_limb limb_1_1 (fun args s t => by simp [limb_1_1, Cond.after, Cond.holds, Cond.value]), lw_limb limb_1_2 (fun args s t => Cond.after_iff.mpr (by
  first | (rw [show limb_1_2 = Cond.eq .result (.int 1) from rfl, Cond.eq_ints (x := 1) (y := 1) rfl rfl]; simp; done) | (simp [limb_1_2, Cond.value, Term.eval]; done)))⟩
