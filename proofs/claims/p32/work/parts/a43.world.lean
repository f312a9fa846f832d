/-! the world at the law's entry -/
theorem xwi : ∀ ci, ci < 11 → Cond.instantiable (xcC ci) (xcN ci) ∈ lw_tbl
  | 0, _ => List.mem_of_getElem? (i := 255) (by decide +kernel)
  | 1, _ => List.mem_of_getElem? (i := 209) (by decide +kernel)
  | 2, _ => List.mem_of_getElem? (i := 69) (by decide +kernel)
  | 3, _ => List.mem_of_getElem? (i := 63) (by decide +kernel)
  | 4, _ => List.mem_of_getElem? (i := 189) (by decide +kernel)
  | 5, _ => List.mem_of_getElem? (i := 126) (by decide +kernel)
  | 6, _ => List.mem_of_getElem? (i := 78) (by decide +kernel)
  | 7, _ => List.mem_of_getElem? (i := 55) (by decide +kernel)
  | 8, _ => List.mem_of_getElem? (i := 78) (by decide +kernel)
  | 9, _ => List.mem_of_getElem? (i := 78) (by decide +kernel)
  | 10, _ => List.mem_of_getElem? (i := 78) (by decide +kernel)
  | n + 11, h => absurd h (by omega)
theorem xwp : ∀ i, i < 5 → Cond.arrayClass (xtyF i) ∈ lw_tbl
  | 0, _ => List.mem_of_getElem? (i := 253) (by decide +kernel)
  | 1, _ => List.mem_of_getElem? (i := 254) (by decide +kernel)
  | 2, _ => List.mem_of_getElem? (i := 253) (by decide +kernel)
  | 3, _ => List.mem_of_getElem? (i := 253) (by decide +kernel)
  | 4, _ => List.mem_of_getElem? (i := 253) (by decide +kernel)
  | n + 5, h => absurd h (by omega)
theorem xwo : ∀ i, i ≤ 5 → Cond.arrayOver (.object (xtyC i)) ∈ lw_tbl
  | 0, _ => List.mem_of_getElem? (i := 75) (by decide +kernel)
  | 1, _ => List.mem_of_getElem? (i := 77) (by decide +kernel)
  | 2, _ => List.mem_of_getElem? (i := 185) (by decide +kernel)
  | 3, _ => List.mem_of_getElem? (i := 187) (by decide +kernel)
  | 4, _ => List.mem_of_getElem? (i := 75) (by decide +kernel)
  | 5, _ => List.mem_of_getElem? (i := 75) (by decide +kernel)
  | n + 6, h => absurd h (by omega)
theorem xws1 : Cond.laysStatic Bundle.tN "UNASSIGNED_STACK" Bundle.steD ∈ lw_tbl := List.mem_of_getElem? (i := 402) (by decide +kernel)
theorem xws2 : Cond.laysStatic Bundle.tN "SUPPRESSED_SENTINEL" Bundle.listD ∈ lw_tbl := List.mem_of_getElem? (i := 404) (by decide +kernel)
theorem xws3 : Cond.initialized Bundle.tN ∈ lw_tbl := List.mem_of_getElem? (i := 37) (by decide +kernel)
theorem xws4 : Cond.laysStatic "java/lang/String" "COMPACT_STRINGS" "Z" ∈ lw_tbl := List.mem_of_getElem? (i := 548) (by decide +kernel)
theorem xws5 : Cond.initialized "java/lang/String" ∈ lw_tbl := List.mem_of_getElem? (i := 42) (by decide +kernel)
theorem xws6 : Cond.laysStatic "jdk/internal/util/Preconditions" "SIOOBE_FORMATTER" "Ljava/util/function/BiFunction;" ∈ lw_tbl := List.mem_of_getElem? (i := 591) (by decide +kernel)
theorem xws7 : Cond.initialized "jdk/internal/util/Preconditions" ∈ lw_tbl := List.mem_of_getElem? (i := 48) (by decide +kernel)
theorem xws8 : Cond.stringRef "PolyglotPier" 56 "nhlsgp+-*/<=zjofqcrtke" ∈ lw_tbl := List.mem_of_getElem? (i := 534) (by decide +kernel)
theorem xws9 : Cond.stringRef "PolyglotPierLaw" 143 "nnhlsgp+-*/<=zjofqcrrtke" ∈ lw_tbl := List.mem_of_getElem? (i := 1141) (by decide +kernel)
theorem xwf1 : Cond.isRef (.static Bundle.tN "UNASSIGNED_STACK" Bundle.steD) ∈ flatC (Jvm.Cond.and given_1 narrow_1) := by decide +kernel
theorem xwf2 : Cond.isRef (.static Bundle.tN "SUPPRESSED_SENTINEL" Bundle.listD) ∈ flatC (Jvm.Cond.and given_1 narrow_1) := by decide +kernel
theorem xwf3 : ∀ q ∈ xncs, Cond.not (.castable q.1 q.2) ∈ flatC (Jvm.Cond.and given_1 narrow_1) := by decide +kernel
theorem xwf4 : Cond.eq (.static "java/lang/String" "COMPACT_STRINGS" "Z") (.int 1) ∈ flatC (Jvm.Cond.and given_1 narrow_1) := by decide +kernel
theorem xwf5 : Cond.isRef (.static "jdk/internal/util/Preconditions" "SIOOBE_FORMATTER" "Ljava/util/function/BiFunction;") ∈ flatC (Jvm.Cond.and given_1 narrow_1) := by decide +kernel
/-- the two texts -/
def xtm (i : Nat) : Term := match i with | 0 => .string "PolyglotPier" 56 | _ => .string "PolyglotPierLaw" 143
theorem xtm1 : ∀ i, i < 2 → Cond.exactly (xtm i) "java/lang/String" ∈ flatC (Jvm.Cond.and given_1 narrow_1) := by decide +kernel
theorem xtm2 : ∀ i, i < 2 → Cond.eq (.field (xtm i) "java/lang/String" "coder" "B") (.int 0) ∈ flatC (Jvm.Cond.and given_1 narrow_1) := by decide +kernel
theorem xtm3 : ∀ i, i < 2 → Cond.arrayOf (.field (xtm i) "java/lang/String" "value" "[B") .byte ∈ flatC (Jvm.Cond.and given_1 narrow_1) := by decide +kernel
theorem xtm4 : ∀ i, i < 2 → Cond.eq (.length (.field (xtm i) "java/lang/String" "value" "[B")) (.int (Int32.ofNat ([22, 24].getD i 0))) ∈ flatC (Jvm.Cond.and given_1 narrow_1) := by decide +kernel
theorem xtm5 : ∀ i, i < 2 → ∀ j, j < [22, 24].getD i 0 → Cond.eq (.elem (.field (xtm i) "java/lang/String" "value" "[B") (.int (Int32.ofNat j))) (.int ((xbyt.getD i []).getD j 0)) ∈ flatC (Jvm.Cond.and given_1 narrow_1) := by decide +kernel
theorem xtm6 : Cond.not (Cond.eq (xtm 0) (xtm 1)) ∈ flatC (Jvm.Cond.and given_1 narrow_1) ∨ Cond.not (Cond.eq (xtm 1) (xtm 0)) ∈ flatC (Jvm.Cond.and given_1 narrow_1) := by decide +kernel
section XSA
variable {s : State} {args : Array Value}
theorem xarrP {F : FieldType} (hF : ∀ C, F ≠ .object C) (h : (Cond.arrayClass F).before args s = true) : ∃ cA : ClassId, ArrOfT s cA F ∧ va_RA s cA F := by
  obtain ⟨cA, kA, comp, h1, h2, h3⟩ := Cond.arrayClass_spec h
  refine ⟨cA, fun n z => ⟨fun k h => (by cases h), kA, h2, comp, h3⟩, ?_⟩
  cases F with
  | object C => exact absurd rfl (hF C)
  | _ => exact h1
theorem xarrO {C : String} (h : va_AO C s) : ∃ cA : ClassId, ArrOfT s cA (.object C) ∧ va_RA s cA (.object C) := by
  obtain ⟨comp, cA, kA, h1, h2, h3, h4, h5⟩ := Cond.arrayOver_spec (va_AO.use (A := #[]) h)
  exact ⟨cA, fun n z => ⟨fun k h => (by cases h), kA, h3, comp, h4⟩, kA, comp, h3, h4, h1, h5⟩
theorem xstrR {own tx : String} {i : Nat} (h : (Cond.stringRef own i tx).before args s = true) : ∃ sa, vk_R own i tx sa s := by
  cases hc : s.vm.findClass own with
  | none =>
    exfalso
    simp [Cond.before, Cond.holds, Cond.value, hc] at h
  | some cur =>
    obtain ⟨k, cf, j, sa, -, -, -, -, -, he⟩ := Cond.stringRef_spec hc h
    exact ⟨sa, vk_R.of h he⟩
theorem xarrK (hts : ∀ w ∈ lw_tbl, w.before args s = true) : ∀ i, i ≤ 10 → ∃ cA : ClassId, ArrOfT s cA (xtyF i) ∧ va_RA s cA (xtyF i)
  | 0, _ => xarrP (fun C h => by cases h) (hts _ (xwp 0 (by omega)))
  | 1, _ => xarrP (fun C h => by cases h) (hts _ (xwp 1 (by omega)))
  | 2, _ => xarrP (fun C h => by cases h) (hts _ (xwp 2 (by omega)))
  | 3, _ => xarrP (fun C h => by cases h) (hts _ (xwp 3 (by omega)))
  | 4, _ => xarrP (fun C h => by cases h) (hts _ (xwp 4 (by omega)))
  | 5, _ => xarrO (va_AO.of (hts _ (xwo 0 (by omega))))
  | 6, _ => xarrO (va_AO.of (hts _ (xwo 1 (by omega))))
  | 7, _ => xarrO (va_AO.of (hts _ (xwo 2 (by omega))))
  | 8, _ => xarrO (va_AO.of (hts _ (xwo 3 (by omega))))
  | 9, _ => xarrO (va_AO.of (hts _ (xwo 4 (by omega))))
  | 10, _ => xarrO (va_AO.of (hts _ (xwo 5 (by omega))))
  | n + 11, h => absurd h (by omega)
theorem xworld0 (hts : ∀ w ∈ lw_tbl, w.before args s = true) (hgv : (Jvm.Cond.and given_1 narrow_1).before args s = true) : ∃ (D : va_G) (ca : Nat → ClassId), ∀ ρ : xE, ρ.1 = s.heap.size → xWorld D ca ρ s := by
  have hg := flat_of_before _ hgv
  have hK : ∀ ci : Nat, ∃ z : ClassId × (Nat → Nat), ci < 11 → u_Kn s (xcC ci) (xcT ci) (xcN ci) z.1 z.2 := by
    intro ci
    by_cases h : ci < 11
    · obtain ⟨c0, i0, h0⟩ := u_known (C := xcC ci) (T := xcT ci) (N := xcN ci) (n := xcN ci) hts (fun w hw => (List.mem_filter.mp ((xfacts (ρ := (0, 0, fun _ => 0)) h).2.1 w hw)).1) (hts _ (xwi ci h))
      exact ⟨(c0, i0), fun _ => h0⟩
    · exact ⟨(0, fun _ => 0), fun q => absurd q h⟩
  have hA : ∀ i : Nat, ∃ cA : ClassId, i ≤ 10 → ArrOfT s cA (xtyF i) ∧ va_RA s cA (xtyF i) := by
    intro i
    by_cases h : i ≤ 10
    · obtain ⟨cA, hc⟩ := xarrK hts i h
      exact ⟨cA, fun _ => hc⟩
    · exact ⟨0, fun q => absurd q h⟩
  obtain ⟨z, hz⟩ := Classical.axiomOfChoice hK
  obtain ⟨ca, hca⟩ := Classical.axiomOfChoice hA
  have hne : ∀ i j : Nat, i < 2 → j < 2 → i ≠ j → (Cond.not (Cond.eq (xtm i) (xtm j))).before args s = true ∨ (Cond.not (Cond.eq (xtm j) (xtm i))).before args s = true := fun i j hi hj hij => by
    have k := xtm6.imp (fun h => hg _ h) (fun h => hg _ h)
    obtain ⟨rfl, rfl⟩ | ⟨rfl, rfl⟩ : (i = 0 ∧ j = 1) ∨ (i = 1 ∧ j = 0) := by omega
    · exact k
    · exact k.symm
  obtain ⟨adK, adV, hS, hE⟩ := vk_Sof (args := args) (s := s) (N := 2) (tm := xtm) (len := [22, 24]) (byt := xbyt) (A := fun q => s.heap.size ≤ q) (by decide) (fun i hi => hg _ (xtm1 i hi)) (fun i hi => hg _ (xtm2 i hi)) (fun i hi => hg _ (xtm3 i hi)) (fun i hi => hg _ (xtm4 i hi)) (fun i hi j hj => hg _ (xtm5 i hi j hj)) hne (fun a ha h => by have h : s.heap.size ≤ a := h; omega)
  refine ⟨(fun k => (z k).1, fun k => (z k).2), ca, fun ρ hρ => ⟨⟨fun ci q hq => ?_, fun i q hq => ?_⟩, fun w hw hn => va_Nw.of (xonT hn) (hts w hw), fun i hi => va_AO.of (hts _ (xwo i hi)), fun own i tx hw => xstrR (hts _ hw), ⟨fun q hq => va_Nc.of (hg _ (xwf3 q hq)), adK, adV, by rw [hρ]; exact hS, vk_R.of (hts _ xws8) (hE 0 (by omega)), vk_R.of (hts _ xws9) (hE 1 (by omega)), ?_, ?_⟩, ?_, ?_⟩⟩
  · have hci : ci < 11 := by
      have := (List.getElem?_eq_some_iff.mp hq).1
      simpa [xcl] using this
    have h1 := (xfacts (ρ := ρ) hci).1
    rw [h1] at hq
    cases hq
    exact hz ci hci
  · have hi : i ≤ 10 := by
      have := (List.getElem?_eq_some_iff.mp hq).1
      simp [xtys] at this
      omega
    have h1 := xtys_at ca hi
    rw [h1] at hq
    cases hq
    exact hca i hi
  · exact va_Zof (hts _ xws4) (hts _ xws5) (va_eqt (hg _ xwf4)) (fun a ha h => by have h : ρ.1 ≤ a := h; omega)
  · exact va_Zqof (hts _ xws6) (hts _ xws7) (hg _ xwf5) (fun a ha h => by have h : ρ.1 ≤ a := h; omega)
  · exact vx_Zqof (hts _ xws1) (hts _ xws3) (hg _ xwf1) (fun a ha h => by have h : ρ.1 ≤ a := h; omega)
  · exact vx_Zqof (hts _ xws2) (hts _ xws3) (hg _ xwf2) (fun a ha h => by have h : ρ.1 ≤ a := h; omega)
end XSA
