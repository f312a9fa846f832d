/-! what is there, for the law's sound -/
theorem zfnd_at {h : zH} (N : zNum h) {r : Nat} (hr : r < 60) (h0 : 0 ≤ h.1 (30 + 5 * r) 0) : ∀ m i, i + m = 60 → i ≤ r → zfnd h (h.1 (30 + 5 * r) 0) m i = some (30 + 5 * r)
  | 0, i, e, hi => by omega
  | m + 1, i, e, hi => by
    unfold zfnd
    by_cases q : h.1 (30 + 5 * i) 0 = h.1 (30 + 5 * r) 0
    · rw [if_pos ⟨Int32.not_lt.mpr h0, q⟩]
      have : r = i := N.2 r i hr (by omega) h0 q.symm
      rw [this]
    · rw [if_neg (fun w => q w.2)]
      have : i ≠ r := fun w => q (by rw [w])
      exact zfnd_at N hr h0 m (i + 1) (by omega) (by omega)
theorem zfnd_r {h : zH} (N : zNum h) {r : Nat} (hr : r < 60) (h0 : 0 ≤ h.1 (30 + 5 * r) 0) : zfnd h (h.1 (30 + 5 * r) 0) 60 0 = some (30 + 5 * r) := zfnd_at N hr h0 60 0 rfl (Nat.zero_le _)
theorem zd2i_n {x : Int32} : FP.d2i (FP.l2d x.toInt64) = x := by
  have e : x.toInt64.toInt = x.toInt := Int32.toInt_toInt64 x
  have h1 := x.toInt_lt
  have h2 := x.le_toInt
  have a := FP.Core.l2d_int (a := x.toInt64) (by rw [e]; omega)
  rw [e] at a
  exact FP.Core.d2i_int a
theorem zgd_ref {h : zH} {k r : Nat} (e : h.1 k 0 = 116) (e1 : h.2.2.2 k 5 = some (30 + 5 * r)) : zisRef h k = true := by
  unfold zisRef
  rw [e, e1]
  rfl
theorem zgd_NR {h : zH} {k r : Nat} (e : h.1 k 0 = 116) (e1 : h.2.2.2 k 5 = some (30 + 5 * r)) : zisNR h k = true := by
  unfold zisNR
  rw [zgd_ref e e1, Bool.or_true]
theorem zgd_told {h : zH} {k r : Nat} (e : h.1 k 0 = 116) (e3 : (h.1 (30 + 5 * r) 0).toInt64 = h.2.1 k 3 ∧ h.1 k 2 = 0) : ztold h k = h.1 (30 + 5 * r) 0 := by
  unfold ztold zasD
  rw [if_pos e3.2, if_neg (by rw [e]; decide), ← e3.1]
  exact zd2i_n
/-! the things by language -/
def zcW (h : zH) (w : Int32) : Nat → Nat → Nat
  | 0, _ => 0
  | m + 1, i => (if zisOf h (30 + 5 * i) w = true then 1 else 0) + zcW h w m (i + 1)
theorem zcnt_W {h : zH} {w : Int32} : ∀ m i (c : Int32), zcnt h w m i c = c + nI (zcW h w m i)
  | 0, _, c => (Int32.add_zero c).symm
  | m + 1, i, c => by
    unfold zcnt zcW
    rw [zcnt_W m (i + 1), ← nI_add, Int32.add_assoc]
    congr 1
    cases zisOf h (30 + 5 * i) w <;> rfl
theorem zlv_le {h : zH} : ∀ n, zlv h n ≤ n
  | 0 => Nat.le_refl _
  | n + 1 => by
    have a := zlv_le (h := h) n
    unfold zlv
    split <;> omega
theorem zisOf_1 {h : zH} (F : zFld h) {i : Nat} (hi : i < 60) : (if 0 ≤ h.1 (30 + 5 * i) 0 then 1 else 0) = (if zisOf h (30 + 5 * i) (nI 0) = true then 1 else 0) + (if zisOf h (30 + 5 * i) (nI 1) = true then 1 else 0) + (if zisOf h (30 + 5 * i) (nI 2) = true then 1 else 0) := by
  unfold zisOf
  by_cases h0 : 0 ≤ h.1 (30 + 5 * i) 0
  · obtain ⟨⟨l, hl, e⟩, -⟩ := F i hi h0
    rw [e, if_pos h0]
    have : l = 0 ∨ l = 1 ∨ l = 2 := by omega
    rw [decide_eq_true h0]
    rcases this with rfl | rfl | rfl <;> decide
  · rw [if_neg h0, decide_eq_false h0]
    rfl
theorem zlv_W {h : zH} (F : zFld h) : ∀ m i, i + m = 60 → zlv h (i + m) = zlv h i + (zcW h (nI 0) m i + zcW h (nI 1) m i + zcW h (nI 2) m i)
  | 0, i, _ => rfl
  | m + 1, i, e => by
    have a := zlv_W F m (i + 1) (by omega)
    rw [show i + 1 + m = i + (m + 1) by omega] at a
    have b := zisOf_1 F (i := i) (by omega)
    have c : ∀ w, zcW h w (m + 1) i = (if zisOf h (30 + 5 * i) w = true then 1 else 0) + zcW h w m (i + 1) := fun _ => rfl
    have d : zlv h (i + 1) = zlv h i + (if 0 ≤ h.1 (30 + 5 * i) 0 then 1 else 0) := rfl
    rw [a, c, c, c, d, b]
    omega
theorem zcnt_3 {h : zH} (F : zFld h) : zcnt h (nI 0) 60 0 (Int32.ofInt (Int.ofNat 0)) + zcnt h (nI 1) 60 0 (Int32.ofInt (Int.ofNat 0)) + zcnt h (nI 2) 60 0 (Int32.ofInt (Int.ofNat 0)) = nI (zlv h 60) := by
  have e : ∀ w, zcnt h w 60 0 (Int32.ofInt (Int.ofNat 0)) = nI (zcW h w 60 0) := fun w => (zcnt_W 60 0 _).trans (Int32.zero_add _)
  rw [e, e, e, nI_add, nI_add]
  refine congrArg nI ?_
  have a := zlv_W F 60 0 (by omega)
  rw [Nat.zero_add, show zlv h 0 = 0 from rfl, Nat.zero_add] at a
  exact a.symm
/-! soundness -/
/-- no thing of Ash without a count -/
def zSd (h : zH) : Prop := ∀ r, r < 60 → zisOf h (30 + 5 * r) 0 = true → 1 ≤ zow h (30 + 5 * r)
theorem zTE_Gd {g h : zH} (e : zTE g h) {k : Nat} (g0 : zGd h k) : zGd g k := by
  intro q
  rw [zTE_0 e (by decide)] at q
  obtain ⟨r, hr, e1, e2, e3⟩ := g0 q
  refine ⟨r, hr, ?_, ?_, ?_⟩
  · rw [zTE_R e]
    exact e1
  · rw [zTE_0 e (by decide)]
    exact e2
  · rw [zTE_0 e (by decide), zTE_0 e (by decide), show g.2.1 = h.2.1 from congrArg Prod.fst e.1]
    exact e3
theorem zwir_gd {h : zH} {k : Nat} (g : zGd h k) : zwir h k = true := by
  unfold zwir
  split
  · rename_i e
    obtain ⟨r, hr, e1, e2, e3⟩ := g e
    rw [if_pos (zgd_ref e e1), e1]
    exact decide_eq_true e3.1
  · rfl
theorem zallF_ok {h : zH} {r : Nat} (H : ∀ f, f < 3 → zGd h (32 + 5 * r + f)) : ∀ m i, i + m = 3 → zallF h r m i = true
  | 0, _, _ => rfl
  | m + 1, i, e => by
    unfold zallF
    rw [zwir_gd (H i (by omega)), zallF_ok H m (i + 1) (by omega)]
    rfl
theorem zallG_ok {h : zH} (H : ∀ i, i < 24 → zGd h (6 + i)) : ∀ m i, i + m = 24 → zallG h m i = true
  | 0, _, _ => rfl
  | m + 1, i, e => by
    unfold zallG
    rw [zwir_gd (H i (by omega)), zallG_ok H m (i + 1) (by omega)]
    rfl
theorem zallM_ok {h : zH} (H : ∀ i, i < 60 → zsn1 h i = true) : ∀ m i, i + m = 60 → zallM h m i = true
  | 0, _, _ => rfl
  | m + 1, i, e => by
    unfold zallM
    rw [H i (by omega), zallM_ok H m (i + 1) (by omega)]
    rfl
theorem zown_pos {h : zH} (hS : zShp h.2.2.2) {r : Nat} (hr : r < 60) (h1 : 1 ≤ zow h (30 + 5 * r)) : 0 < zown (ztally h) (30 + 5 * r) := by
  rw [zown_t hS hr]
  have := zow_le (h := h) (t := 30 + 5 * r)
  exact nI_lt (a := 0) (by omega) (by omega)
theorem zhold_ok {h : zH} (hw : zWk h) (H : zHI h) (S : zSd h) : zhold (ztally h) = true := by
  have e := ztally_TE hw.1
  obtain ⟨a, b, c, d⟩ := H
  unfold zhold
  rw [zallG_ok (fun i hi => zTE_Gd e (a i hi).1) 24 0 rfl, zallM_ok (fun i hi => ?_) 60 0 rfl]
  · rfl
  · unfold zsn1
    rw [zTE_0 e (by decide)]
    split
    · rfl
    · rename_i hn
      have h0 : 0 ≤ h.1 (30 + 5 * i) 0 := Int32.not_lt.mp hn
      unfold zsnd
      rw [zallF_ok (fun f hf => zTE_Gd e ((b i hi h0).2 f hf).1) 3 0 rfl, zTE_0 e (by decide)]
      by_cases q : h.1 (30 + 5 * i) 1 = 0
      · rw [decide_eq_true (zown_pos hw.1 hi (S i hi (by unfold zisOf; rw [decide_eq_true h0, decide_eq_true q]; rfl))), Bool.or_true]
        rfl
      · rw [decide_eq_true q]
        rfl
theorem zkG_at {h : zH} {t j : Nat} (e : zn1 h (6 + j) t = 1) : ∀ m i, i ≤ j → j < i + m → 1 ≤ zkG h t m i
  | 0, i, h1, h2 => by omega
  | m + 1, i, h1, h2 => by
    unfold zkG
    by_cases q : i = j
    · subst q
      omega
    · have := zkG_at e m (i + 1) (by omega) (by omega)
      omega
theorem zow_G {h : zH} {i r : Nat} (hi : i < 8) (e : h.1 (6 + i) 0 = 116) (e1 : h.2.2.2 (6 + i) 5 = some (30 + 5 * r)) : 1 ≤ zow h (30 + 5 * r) := by
  have a : zn1 h (6 + i) (30 + 5 * r) = 1 := by
    unfold zn1
    rw [if_pos ⟨zgd_ref e e1, e1⟩]
  have b := zkG_at a 8 0 (Nat.zero_le _) (by omega)
  unfold zow zkN
  omega
