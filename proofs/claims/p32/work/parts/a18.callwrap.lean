/-! calls of the law's call, with their answers -/
def znumA (h : zH) (k : Nat) : Int32 := if zisNR h k = true then ztold h k else -1005
def zcouA (h : zH) (n : Int32) : Int32 := match zfnd h n 60 0 with | none => -1005 | some t => zown (ztally h) t
def zhelA (h : zH) (n : Int32) : Int32 := match zfnd h n 60 0 with | none => -1005 | some t => if zheld (ztally h) t = 0 then 0 else 1
section ZCW
variable {ω : zO} {mi pc a b : Nat} {ls : List (Nat × zV)} {st : List zV} {h : zH} {idx iy iz : Nat} {ps : List Nat} {d0 : Drawn}
theorem zg_kind (C : zX ω mi) (ht : zat mi pc = some (.invokestatic idx, (pc, 3, 128, iy, iz), 0, ps)) (hz : zh 128 + 1 ≤ zh mi) {l g : Nat} {c d : Int32} (hl : l < 3) (hg : g < 8) (hw : zWk h) (hsum : zsum st ≤ 8) (hca : a ≤ (oR ω).cells ∧ b ≤ (oR ω).slots) (kk : ZG ω mi (pc + 3) ls (zi (h.1 (6 + (8 * l + g)) 0) :: st) h a b) : ZG ω mi pc ls (zi d :: zi c :: zi (nI g) :: zi (nI l) :: zi (Int32.ofInt (Int.ofNat 14)) :: zr (some 0) :: st) h a b :=
  z_callsH C ht ⟨by decide, hz, by decide⟩ (w_14 (zKg_of C) (c_kindOf (zKg_of C) hl hg h hw)) rfl rfl hsum hca kk
theorem zg_num (C : zX ω mi) (hd0 : (oS ω).drawn.sameBut d0 lw_cs) (ht : zat mi pc = some (.invokestatic idx, (pc, 3, 128, iy, iz), 0, ps)) (hz : zh 128 + 1 ≤ zh mi) {l g : Nat} {c d : Int32} (hl : l < 3) (hg : g < 8) (hw : zWk h) (hsum : zsum st ≤ 8) (hca : a + 1 ≤ (oR ω).cells ∧ b + 6 ≤ (oR ω).slots)
    (kk : ∀ a1 b1 d1, a1 ≤ a + 1 → b1 ≤ b + 6 → (oS ω).drawn.sameBut d1 lw_cs → ZG (zod ω d1) mi (pc + 3) ls (zi (znumA h (6 + (8 * l + g))) :: st) h a1 b1) : ZG (zod ω d0) mi pc ls (zi d :: zi c :: zi (nI g) :: zi (nI l) :: zi (Int32.ofInt (Int.ofNat 22)) :: zr (some 0) :: st) h a b := by
  by_cases hnr : zisNR h (6 + (8 * l + g)) = true
  · refine z_callsDH C hd0 ht ⟨by decide, hz, by decide⟩ (w_22 (zKg_of C) (d_numOf (zKg_of C) hl hg h hw hnr)) rfl rfl hsum ⟨by omega, by omega⟩ fun v h1 d1 q hd1 => ?_
    obtain ⟨e1, e2⟩ := q
    rw [e1, e2]
    have k := kk a b d1 (by omega) (by omega) hd1
    unfold znumA at k
    rw [if_pos hnr] at k
    exact k
  · have hnr : zisNR h (6 + (8 * l + g)) = false := by simpa using hnr
    refine z_callsH (zX_od C d0) ht ⟨by decide, hz, by decide⟩ (x_22 (hp := 357) (vv := -1005) (zKg_of C) ⟨by decide, by decide +kernel, rfl⟩ (t_numOf (zKg_of C) hl hg h hw hnr)) rfl rfl hsum hca ?_
    have k := kk (a + 1) (b + 6) d0 (Nat.le_refl _) (Nat.le_refl _) hd0
    unfold znumA at k
    rw [if_neg (by rw [hnr]; decide)] at k
    exact k
theorem zg_cou (C : zX ω mi) (ht : zat mi pc = some (.invokestatic idx, (pc, 3, 128, iy, iz), 0, ps)) (hz : zh 128 + 1 ≤ zh mi) {n x c d : Int32} (hw : zWk h) (hn : zwithin n (h.1 2 4) = true) (hsum : zsum st ≤ 8) (hca : a + 1 ≤ (oR ω).cells ∧ b + 6 ≤ (oR ω).slots)
    (kk : ∀ a1 b1 h1, a1 ≤ a + 1 → b1 ≤ b + 6 → zTE h1 h → ZG ω mi (pc + 3) ls (zi (zcouA h n) :: st) h1 a1 b1) : ZG ω mi pc ls (zi d :: zi c :: zi x :: zi n :: zi (Int32.ofInt (Int.ofNat 18)) :: zr (some 0) :: st) h a b := by
  unfold zcouA at kk
  cases hf : zfnd h n 60 0 with
  | none =>
    rw [hf] at kk
    exact z_callsH C ht ⟨by decide, hz, by decide⟩ (x_18 (hp := 357) (vv := -1005) (zKg_of C) ⟨by decide, by decide +kernel, rfl⟩ (t_count2 (zKg_of C) h hw hn hf)) rfl rfl hsum hca (kk (a + 1) (b + 6) h (Nat.le_refl _) (Nat.le_refl _) zTE_refl)
  | some t =>
    rw [hf] at kk
    exact z_callsH C ht ⟨by decide, hz, by decide⟩ (w_18 (zKg_of C) (c_count (zKg_of C) h hw hn hf)) rfl rfl hsum ⟨by omega, by omega⟩ (kk a b (ztally h) (by omega) (by omega) (ztally_TE hw.1))
theorem zg_hel (C : zX ω mi) (ht : zat mi pc = some (.invokestatic idx, (pc, 3, 128, iy, iz), 0, ps)) (hz : zh 128 + 1 ≤ zh mi) {n x c d : Int32} (hw : zWk h) (hn : zwithin n (h.1 2 4) = true) (hsum : zsum st ≤ 8) (hca : a + 1 ≤ (oR ω).cells ∧ b + 6 ≤ (oR ω).slots)
    (kk : ∀ a1 b1 h1, a1 ≤ a + 1 → b1 ≤ b + 6 → zTE h1 h → ZG ω mi (pc + 3) ls (zi (zhelA h n) :: st) h1 a1 b1) : ZG ω mi pc ls (zi d :: zi c :: zi x :: zi n :: zi (Int32.ofInt (Int.ofNat 19)) :: zr (some 0) :: st) h a b := by
  unfold zhelA at kk
  cases hf : zfnd h n 60 0 with
  | none =>
    rw [hf] at kk
    exact z_callsH C ht ⟨by decide, hz, by decide⟩ (x_19 (hp := 357) (vv := -1005) (zKg_of C) ⟨by decide, by decide +kernel, rfl⟩ (t_isHeld2 (zKg_of C) h hw hn hf)) rfl rfl hsum hca (kk (a + 1) (b + 6) h (Nat.le_refl _) (Nat.le_refl _) zTE_refl)
  | some t =>
    rw [hf] at kk
    exact z_callsH C ht ⟨by decide, hz, by decide⟩ (w_19 (zKg_of C) (c_isHeld (zKg_of C) h hw hn hf)) rfl rfl hsum ⟨by omega, by omega⟩ (kk a b (ztally h) (by omega) (by omega) (ztally_TE hw.1))
theorem zg_things (C : zX ω mi) (ht : zat mi pc = some (.invokestatic idx, (pc, 3, 128, iy, iz), 0, ps)) (hz : zh 128 + 1 ≤ zh mi) {n x c d : Int32} (hw : zWk h) (hn : zwithin n (Int32.ofInt (Int.ofNat 3)) = true) (hsum : zsum st ≤ 8) (hca : a ≤ (oR ω).cells ∧ b ≤ (oR ω).slots)
    (kk : ZG ω mi (pc + 3) ls (zi (zcnt h n 60 0 (Int32.ofInt (Int.ofNat 0))) :: st) h a b) : ZG ω mi pc ls (zi d :: zi c :: zi x :: zi n :: zi (Int32.ofInt (Int.ofNat 16)) :: zr (some 0) :: st) h a b :=
  z_callsH C ht ⟨by decide, hz, by decide⟩ (w_16 (zKg_of C) (c_thingsF (zKg_of C) hn h hw)) rfl rfl hsum hca kk
theorem zg_there (C : zX ω mi) (ht : zat mi pc = some (.invokestatic idx, (pc, 3, 128, iy, iz), 0, ps)) (hz : zh 128 + 1 ≤ zh mi) {n x c d : Int32} (hw : zWk h) (hn : zwithin n (h.1 2 4) = true) (hsum : zsum st ≤ 8) (hca : a ≤ (oR ω).cells ∧ b ≤ (oR ω).slots)
    (kk : ZG ω mi (pc + 3) ls (zi (zB (zfnd h n 60 0).isSome) :: st) h a b) : ZG ω mi pc ls (zi d :: zi c :: zi x :: zi n :: zi (Int32.ofInt (Int.ofNat 17)) :: zr (some 0) :: st) h a b := by
  refine z_callsH C ht ⟨by decide, hz, by decide⟩ (w_17 (zKg_of C) (c_isThere (zKg_of C) h hw hn)) rfl rfl hsum hca ?_
  have e : (if zB (zfnd h n 60 0).isSome = 0 then (0 : Int32) else 1) = zB (zfnd h n 60 0).isSome := by
    cases (zfnd h n 60 0).isSome <;> rfl
  rw [e]
  exact kk
end ZCW
