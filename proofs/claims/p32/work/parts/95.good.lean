/-! good values, and what a write to one value keeps -/
def zGd (h : zH) (k : Nat) : Prop := h.1 k 0 = 116 → ∃ r, r < 60 ∧ h.2.2.2 k 5 = some (30 + 5 * r) ∧ 0 ≤ h.1 (30 + 5 * r) 0 ∧ ((h.1 (30 + 5 * r) 0).toInt64 = h.2.1 k 3 ∧ h.1 k 2 = 0)
theorem zoff_refl {h : zH} {k : Nat} : zoff h h k := fun _ _ => ⟨rfl, rfl, rfl, rfl⟩
theorem zoff_tr {h h1 h2 : zH} {k : Nat} (a : zoff h h1 k) (b : zoff h1 h2 k) : zoff h h2 k := fun c hc => ⟨(b c hc).1.trans (a c hc).1, (b c hc).2.1.trans (a c hc).2.1, (b c hc).2.2.1.trans (a c hc).2.2.1, (b c hc).2.2.2.trans (a c hc).2.2.2⟩
theorem zvt {k r : Nat} (hk : zS k = (0, 6, 6)) (hr : r < 60) : 30 + 5 * r ≠ k := fun q => by rw [← q, zS_thing r hr] at hk; cases hk
theorem zGd_off {h h' : zH} {k k' : Nat} (ho : zoff h h' k) (hk : ∀ r, r < 60 → 30 + 5 * r ≠ k) (hne : k' ≠ k) (g : zGd h k') : zGd h' k' := by
  intro e
  have h1 := ho k' hne
  rw [h1.1] at e
  obtain ⟨r, hr, e1, e2, e3⟩ := g e
  have h2 := ho _ (hk r hr)
  exact ⟨r, hr, by rw [h1.2.2.2]; exact e1, by rw [h2.1]; exact e2, by rw [h2.1, h1.2.1, h1.1]; exact e3⟩
theorem zNn_D {h : zH} (hn : zNn h) {k : Nat} {x : UInt64} (hx : vf_n64 x) : zNn (zupD h k 1 x) := fun k' hk' => by
  by_cases e : k' = k
  · subst e
    rw [zupD_at]
    exact hx
  · rw [zupD_ne (fun q => e q.1)]
    exact hn k' hk'
/-- value k alone is written, with a good value -/
def zVW (h : zH) (k : Nat) (h' : zH) : Prop := zoff h h' k ∧ zWk h' ∧ zNn h' ∧ zGd h' k
section ZVW
variable {h : zH} {k : Nat}
theorem zVW_refl (hw : zWk h) (hn : zNn h) (g : zGd h k) : zVW h k h := ⟨zoff_refl, hw, hn, g⟩
theorem zVW_tr {h1 h2 : zH} (a : zVW h k h1) (b : zVW h1 k h2) : zVW h k h2 := ⟨zoff_tr a.1 b.1, b.2.1, b.2.2.1, b.2.2.2⟩
theorem zbReal_k {x : UInt64} : (zbReal h k x).1 k 0 = 100 := by
  show (zupI (zupD (zupI h k 0 100) k 1 x) k 2 0).1 k 0 = 100
  rw [zupI_ne (fun q => by cases q.2)]
  exact zupI_at
theorem zbStrange_k : (zbStrange h k).1 k 0 = 100 := by
  show (zupI (zupD (zupI h k 0 100) k 1 FP.dconst0) k 2 1).1 k 0 = 100
  rw [zupI_ne (fun q => by cases q.2)]
  exact zupI_at
theorem zbWhole_k {c : Int32} {x : Int64} : (zbWhole h k c x).1 k 0 = c := by
  show (zupI (zupJ (zupI h k 0 c) k 3 x) k 2 0).1 k 0 = c
  rw [zupI_ne (fun q => by cases q.2)]
  exact zupI_at
theorem zbNothing_k {c : Int32} : (zbNothing h k c).1 k 0 = c := by
  show (zupI (zupI h k 0 c) k 2 0).1 k 0 = c
  rw [zupI_ne (fun q => by cases q.2)]
  exact zupI_at
theorem zV_real (hw : zWk h) (hn : zNn h) (hk : zS k = (0, 6, 6)) {x : UInt64} (hx : vf_n64 x) : zVW h k (zbReal h k x) :=
  ⟨zoff_tr (zoff_tr (zoff_tr zoffI zoffD) zoffI) zoffR, zK_bReal hw hk, zNn_D (h := zupI h k 0 100) (k := k) hn hx, fun e => by rw [zbReal_k] at e; exact absurd e (by decide)⟩
theorem zV_strange (hw : zWk h) (hn : zNn h) (hk : zS k = (0, 6, 6)) : zVW h k (zbStrange h k) :=
  ⟨zoff_tr (zoff_tr (zoff_tr zoffI zoffD) zoffI) zoffR, zK_bStrange hw hk, zNn_D (h := zupI h k 0 100) (k := k) hn zn_0, fun e => by rw [zbStrange_k] at e; exact absurd e (by decide)⟩
theorem zV_whole (hw : zWk h) (hn : zNn h) (hk : zS k = (0, 6, 6)) {c : Int32} {x : Int64} (hc : zCh c) (h116 : c ≠ 116) : zVW h k (zbWhole h k c x) :=
  ⟨zoff_tr (zoff_tr (zoff_tr zoffI zoffJ) zoffI) zoffR, zK_bWhole hw hk hc, hn, fun e => by rw [zbWhole_k] at e; exact absurd e h116⟩
theorem zV_nothing (hw : zWk h) (hn : zNn h) (hk : zS k = (0, 6, 6)) {c : Int32} (hc : zCh c) (h116 : c ≠ 116) : zVW h k (zbNothing h k c) :=
  ⟨zoff_tr (zoff_tr zoffI zoffI) zoffR, zK_bNothing hw hk hc, hn, fun e => by rw [zbNothing_k] at e; exact absurd e h116⟩
theorem zno116 {l : Int32} : znoOf l ≠ 116 := by
  unfold znoOf
  split
  · decide
  · split <;> decide
theorem zV_no (hw : zWk h) (hn : zNn h) (hk : zS k = (0, 6, 6)) {l : Int32} : zVW h k (zbNothing h k (znoOf l)) := zV_nothing hw hn hk zCh_no zno116
theorem zV_num (hw : zWk h) (hn : zNn h) (hk : zS k = (0, 6, 6)) {l x : Int32} : zVW h k (zbNum h k l x) := by
  unfold zbNum
  split
  · exact zV_real hw hn hk zn_i2d
  · split
    · exact zV_whole hw hn hk zCh105 (by decide)
    · exact zV_whole hw hn hk zCh106 (by decide)
theorem zV_esc (hw : zWk h) (hn : zNn h) (hk : zS k = (0, 6, 6)) {x : Int64} {p : Int32} : zVW h k (zbEsc h k x p) := by
  have a := zV_whole (x := x) hw hn hk zCh107 (by decide)
  refine ⟨zoff_tr a.1 zoffI, zK_bEsc hw hk, a.2.2.1, fun e => ?_⟩
  have e1 : (zbEsc h k x p).1 k 0 = (zbWhole h k 107 x).1 k 0 := zupI_ne (fun q => by cases q.2)
  rw [e1, zbWhole_k] at e
  exact absurd e (by decide)
theorem zV_ref (hw : zWk h) (hn : zNn h) (hk : zS k = (0, 6, 6)) {r : Nat} (hr : r < 60) (h0 : 0 ≤ h.1 (30 + 5 * r) 0) : zVW h k (zbRef h k (30 + 5 * r)) := by
  have ho : zoff h (zbRef h k (30 + 5 * r)) k := zoff_tr (zoff_tr (zoff_tr (zoff_tr zoffI zoffJ) zoffI) zoffR) zoffR
  refine ⟨ho, zK_bRef hw hk ⟨r, hr, rfl⟩, hn, fun _ => ⟨r, hr, zupR_at, ?_, ?_⟩⟩
  · rw [(ho _ (zvt hk hr)).1]
    exact h0
  · rw [(ho _ (zvt hk hr)).1]
    have e : (zbRef h k (30 + 5 * r)).2.1 k 3 = (zupJ (zupI h k 0 116) k 3 (h.1 (30 + 5 * r) 0).toInt64).2.1 k 3 := rfl
    refine ⟨by rw [e, zupJ_at], ?_⟩
    exact zupI_at
theorem zcp_off {o : Nat} : zoff h (zcp h k o) k := zoff_tr (zoff_tr (zoff_tr (zoff_tr (zoff_tr zoffI zoffD) zoffI) zoffJ) zoffI) zoffR
theorem zcp_k0 {o : Nat} : (zcp h k o).1 k 0 = h.1 o 0 := by
  show (zupI (zupJ (zupI (zupD (zupI h k 0 (h.1 o 0)) k 1 (h.2.2.1 o 1)) k 2 (h.1 o 2)) k 3 (h.2.1 o 3)) k 4 (h.1 o 4)).1 k 0 = _
  rw [zupI_ne (fun q => by cases q.2)]
  show (zupI (zupD (zupI h k 0 (h.1 o 0)) k 1 (h.2.2.1 o 1)) k 2 (h.1 o 2)).1 k 0 = _
  rw [zupI_ne (fun q => by cases q.2)]
  exact zupI_at
theorem zcp_k2 {o : Nat} : (zcp h k o).1 k 2 = h.1 o 2 := by
  show (zupI (zupJ (zupI (zupD (zupI h k 0 (h.1 o 0)) k 1 (h.2.2.1 o 1)) k 2 (h.1 o 2)) k 3 (h.2.1 o 3)) k 4 (h.1 o 4)).1 k 2 = _
  rw [zupI_ne (fun q => by cases q.2)]
  exact zupI_at
theorem zcp_k3 {o : Nat} : (zcp h k o).2.1 k 3 = h.2.1 o 3 := zupJ_at
theorem zcp_k5 {o : Nat} : (zcp h k o).2.2.2 k 5 = h.2.2.2 o 5 := zupR_at
theorem zGd_cp {o : Nat} (hk : zS k = (0, 6, 6)) (g : zGd h o) : zGd (zcp h k o) k := by
  intro e
  rw [zcp_k0] at e
  obtain ⟨r, hr, e1, e2, e3⟩ := g e
  have h2 := zcp_off (h := h) (k := k) (o := o) _ (zvt hk hr)
  exact ⟨r, hr, by rw [zcp_k5]; exact e1, by rw [h2.1]; exact e2, by rw [h2.1, zcp_k3, zcp_k2]; exact e3⟩
theorem zNn_cp (hn : zNn h) {o : Nat} (ho : zS o = (0, 6, 6)) : zNn (zcp h k o) := zNn_D (h := zupI h k 0 (h.1 o 0)) (k := k) hn (hn o ho)
theorem zV_cp (hw : zWk h) (hn : zNn h) (hk : zS k = (0, 6, 6)) {o : Nat} (ho : zS o = (0, 6, 6)) (g : zGd h o) : zVW h k (zcp h k o) := ⟨zcp_off, zK_cp hw hk ho, zNn_cp hn ho, zGd_cp hk g⟩
theorem zV_ta (hw : zWk h) (hn : zNn h) (hk : zS k = (0, 6, 6)) (g : zGd h k) : zVW h k (zta h k).2 := by
  unfold zta
  split
  · exact zVW_refl hw hn g
  · split
    · exact zVW_refl hw hn g
    · split
      · exact zV_real hw hn hk zn_l2d
      · exact zVW_refl hw hn g
theorem zV_tc (hw : zWk h) (hn : zNn h) (hk : zS k = (0, 6, 6)) (g : zGd h k) : zVW h k (ztc h k).2 := by
  unfold ztc
  split
  · split
    · exact zV_whole hw hn hk zCh106 (by decide)
    · exact zVW_refl hw hn g
  · exact zV_whole hw hn hk zCh106 (by decide)
theorem zV_tb (hw : zWk h) (hn : zNn h) (hk : zS k = (0, 6, 6)) (g : zGd h k) : zVW h k (ztb h k).2 := by
  unfold ztb
  split
  · show zVW h k (if zinB (h.2.2.1 k 1) (h.1 k 2) = true then _ else h)
    split
    · exact zV_whole hw hn hk zCh105 (by decide)
    · exact zVW_refl hw hn g
  · split
    · exact zV_whole hw hn hk zCh105 (by decide)
    · exact zVW_refl hw hn g
theorem zV_cr (hw : zWk h) (hn : zNn h) (hk : zS k = (0, 6, 6)) (g : zGd h k) {a b : Int32} : zVW h k (zcr h k a b).2 := by
  unfold zcr
  split
  · exact zVW_refl hw hn g
  · split
    · exact zVW_refl hw hn g
    · split
      · exact zVW_refl hw hn g
      · split
        · show zVW h k (if b = 2 then _ else _)
          split
          · exact zV_nothing hw hn hk (by unfold zCh; decide) (by decide)
          · exact zV_nothing hw hn hk (by unfold zCh; decide) (by decide)
        · split
          · exact zV_ta hw hn hk g
          · split
            · exact zV_tb hw hn hk g
            · exact zV_tc hw hn hk g
theorem zcr_9 {a b : Int32} : (zcr h k a b).1 ≠ 9 := by
  unfold zcr
  split
  · (dsimp only; decide)
  · split
    · (dsimp only; decide)
    · split
      · (dsimp only; decide)
      · split
        · dsimp only; decide
        · split
          · unfold zta
            split
            · (dsimp only; decide)
            · split
              · (dsimp only; decide)
              · split <;> (dsimp only; decide)
          · split
            · unfold ztb
              split
              · dsimp only; decide
              · split <;> (dsimp only; decide)
            · unfold ztc
              split
              · split <;> (dsimp only; decide)
              · (dsimp only; decide)
end ZVW
