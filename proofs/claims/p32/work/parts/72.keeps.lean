/-! what every step keeps: the shape of the references and the types -/
def zCh (x : Int32) : Prop := 0 ≤ x.toInt ∧ x.toInt < 65536
def zBo (x : Int32) : Prop := x = 0 ∨ x = 1
def zWk (h : zH) : Prop := zShp h.2.2.2 ∧ zTyp h.1
def zTok (k j : Nat) (x : Int32) : Prop := (zS k = (0, 6, 6) → (j = 0 → zCh x) ∧ (j = 2 → zBo x)) ∧ (zS k = (0, 5, 6) → (j = 3 → zBo x) ∧ (j = 5 → zBo x)) ∧ (zS k = (0, 1, 9) → j = 8 → zBo x) ∧ (k = 1 → j = 9 → zCh x)
theorem zTyp_I {h : zH} (hT : zTyp h.1) {k j : Nat} {x : Int32} (ok : zTok k j x) : zTyp (zupI h k j x).1 := by
  have rd : ∀ (P : Int32 → Prop) (k' j' : Nat), P (h.1 k' j') → (k' = k → j' = j → P x) → P ((zupI h k j x).1 k' j') := by
    intro P k' j' h1 h2
    by_cases e : k' = k ∧ j' = j
    · obtain ⟨rfl, rfl⟩ := e
      rw [zupI_at]
      exact h2 rfl rfl
    · rw [zupI_ne e]
      exact h1
  refine ⟨fun k' hk => ⟨?_, ?_⟩, fun k' hk => ⟨?_, ?_⟩, fun k' hk => ?_, ?_⟩
  · exact rd zCh k' 0 (hT.1 k' hk).1 fun e1 e2 => (ok.1 (e1 ▸ hk)).1 e2.symm
  · exact rd zBo k' 2 (hT.1 k' hk).2 fun e1 e2 => (ok.1 (e1 ▸ hk)).2 e2.symm
  · exact rd zBo k' 3 (hT.2.1 k' hk).1 fun e1 e2 => (ok.2.1 (e1 ▸ hk)).1 e2.symm
  · exact rd zBo k' 5 (hT.2.1 k' hk).2 fun e1 e2 => (ok.2.1 (e1 ▸ hk)).2 e2.symm
  · exact rd zBo k' 8 (hT.2.2.1 k' hk) fun e1 e2 => ok.2.2.1 (e1 ▸ hk) e2.symm
  · exact rd zCh 1 9 hT.2.2.2 fun e1 e2 => ok.2.2.2 e1.symm e2.symm
theorem zne1 {k a b n : Nat} (hk : zS k = (a, b, n)) (hb : b ≠ 3) : k ≠ 1 := fun e => by
  rw [e, zS_1] at hk
  injection hk with h1 h2
  injection h2 with h3 h4
  exact hb h3.symm
theorem zTok_v {k j : Nat} {x : Int32} (hk : zS k = (0, 6, 6)) (h0 : j = 0 → zCh x) (h2 : j = 2 → zBo x) : zTok k j x := ⟨fun _ => ⟨h0, h2⟩, fun e => (by rw [hk] at e; cases e), fun e => (by rw [hk] at e; cases e), fun e => absurd e (zne1 hk (by decide))⟩
theorem zTok_t {k j : Nat} {x : Int32} (hk : zS k = (0, 5, 6)) (h3 : j = 3 → zBo x) (h5 : j = 5 → zBo x) : zTok k j x := ⟨fun e => (by rw [hk] at e; cases e), fun _ => ⟨h3, h5⟩, fun e => (by rw [hk] at e; cases e), fun e => absurd e (zne1 hk (by decide))⟩
theorem zTok_f {k j : Nat} {x : Int32} (hk : zS k = (0, 1, 9)) (h8 : j = 8 → zBo x) : zTok k j x := ⟨fun e => (by rw [hk] at e; cases e), fun e => (by rw [hk] at e; cases e), fun _ => h8, fun e => absurd e (zne1 hk (by decide))⟩
theorem zTok_m {j : Nat} {x : Int32} (h9 : j = 9 → zCh x) : zTok 1 j x := ⟨fun e => (by rw [zS_1] at e; cases e), fun e => (by rw [zS_1] at e; cases e), fun e => (by rw [zS_1] at e; cases e), fun _ => h9⟩
theorem zTok_o {k j : Nat} {x : Int32} {a b n : Nat} (hk : zS k = (a, b, n)) (h6 : ¬ (a = 0 ∧ b = 6)) (h5 : ¬ (a = 0 ∧ b = 5)) (h1 : ¬ (a = 0 ∧ b = 1)) (h3 : b ≠ 3) : zTok k j x := by
  refine ⟨fun e => ?_, fun e => ?_, fun e => ?_, fun e => absurd e (zne1 hk h3)⟩
  · rw [hk] at e
    injection e with e1 e2
    injection e2 with e3 e4
    exact absurd ⟨e1, e3⟩ h6
  · rw [hk] at e
    injection e with e1 e2
    injection e2 with e3 e4
    exact absurd ⟨e1, e3⟩ h5
  · rw [hk] at e
    injection e with e1 e2
    injection e2 with e3 e4
    exact absurd ⟨e1, e3⟩ h1
theorem zK_I {h : zH} (hw : zWk h) {k j : Nat} {x : Int32} (ok : zTok k j x) : zWk (zupI h k j x) := ⟨hw.1, zTyp_I hw.2 ok⟩
theorem zK_J {h : zH} (hw : zWk h) {k j : Nat} {x : Int64} : zWk (zupJ h k j x) := hw
theorem zK_D {h : zH} (hw : zWk h) {k j : Nat} {x : UInt64} : zWk (zupD h k j x) := hw
theorem zK_T {h : zH} (hw : zWk h) {k : Nat} {q : Option Nat} (hk : zS k = (0, 6, 6)) (hq : ∀ t, q = some t → zTh t) : zWk (zupR h k 5 q) := ⟨zShp_tgt hw.1 hk hq, hw.2⟩
theorem zK_P {h : zH} (hw : zWk h) {j t : Nat} (ht : zTh t) : zWk (zupR h 5 j (some t)) := by
  obtain ⟨⟨h1, h2, h3, h4⟩, h5⟩ := hw
  refine ⟨⟨zFix_of h1 fun k' j' hm => zupR_ne (fun e => hm (Or.inr (Or.inl e.1))), fun k' hk' t' ht' => ?_, fun j' t' ht' => ?_, fun c hc => ?_⟩, h5⟩
  · rw [zupR_ne (fun e => by rw [e.1, zS_5] at hk'; cases hk')] at ht'
    exact h2 k' hk' t' ht'
  · by_cases e : j' = j
    · subst e
      rw [zupR_at] at ht'
      injection ht' with ht'
      exact ht' ▸ ht
    · rw [zupR_ne (fun q => e q.2)] at ht'
      exact h3 j' t' ht'
  · obtain ⟨f, hf, e⟩ := h4 c hc
    refine ⟨f, hf, ?_⟩
    rw [zupR_ne (fun q => by omega)]
    exact e
theorem zK_F {h : zH} (hw : zWk h) {c f : Nat} (hc : c < 12) (hf : f < 10) : zWk (zupR h (781 + 6 * c) 0 (some (751 + 3 * f))) := by
  obtain ⟨⟨h1, h2, h3, h4⟩, h5⟩ := hw
  refine ⟨⟨zFix_of h1 fun k' j' hm => zupR_ne (fun e => hm (Or.inr (Or.inr ?_))), fun k' hk' t' ht' => ?_, fun j' t' ht' => ?_, fun c' hc' => ?_⟩, h5⟩
  · obtain ⟨rfl, rfl⟩ := e
    rw [zS_call c hc]
    exact ⟨rfl, rfl, rfl⟩
  · rw [zupR_ne (fun e => by rw [e.1, zS_call c hc] at hk'; cases hk')] at ht'
    exact h2 k' hk' t' ht'
  · rw [zupR_ne (fun q => by omega)] at ht'
    exact h3 j' t' ht'
  · by_cases e : c' = c
    · subst e
      exact ⟨f, hf, zupR_at⟩
    · obtain ⟨f', hf', e'⟩ := h4 c' hc'
      refine ⟨f', hf', ?_⟩
      rw [zupR_ne (fun q => by omega)]
      exact e'
theorem zBo0 : zBo 0 := Or.inl rfl
theorem zBo1 : zBo 1 := Or.inr rfl
theorem zN5 {t : Nat} {k : Nat} : (none : Option Nat) = some t → zTh t := fun q => by cases q
theorem zK_bNothing {h : zH} (hw : zWk h) {k : Nat} {c : Int32} (hk : zS k = (0, 6, 6)) (hc : zCh c) : zWk (zbNothing h k c) := zK_T (zK_I (zK_I hw (zTok_v hk (fun _ => hc) (fun e => by cases e))) (zTok_v hk (fun e => by cases e) (fun _ => zBo0))) hk (fun _ q => by cases q)
theorem zK_bWhole {h : zH} (hw : zWk h) {k : Nat} {c : Int32} {x : Int64} (hk : zS k = (0, 6, 6)) (hc : zCh c) : zWk (zbWhole h k c x) := zK_T (zK_I (zK_J (zK_I hw (zTok_v hk (fun _ => hc) (fun e => by cases e)))) (zTok_v hk (fun e => by cases e) (fun _ => zBo0))) hk (fun _ q => by cases q)
theorem zCh100 : zCh 100 := by unfold zCh; decide
theorem zCh105 : zCh 105 := by unfold zCh; decide
theorem zCh106 : zCh 106 := by unfold zCh; decide
theorem zCh107 : zCh 107 := by unfold zCh; decide
theorem zCh116 : zCh 116 := by unfold zCh; decide
theorem zCh_no {l : Int32} : zCh (znoOf l) := by
  unfold znoOf
  split
  · unfold zCh; decide
  · split
    · unfold zCh; decide
    · unfold zCh; decide
theorem zK_bReal {h : zH} (hw : zWk h) {k : Nat} {x : UInt64} (hk : zS k = (0, 6, 6)) : zWk (zbReal h k x) := zK_T (zK_I (zK_D (zK_I hw (zTok_v hk (fun _ => zCh100) (fun e => by cases e)))) (zTok_v hk (fun e => by cases e) (fun _ => zBo0))) hk (fun _ q => by cases q)
theorem zK_bStrange {h : zH} (hw : zWk h) {k : Nat} (hk : zS k = (0, 6, 6)) : zWk (zbStrange h k) := zK_T (zK_I (zK_D (zK_I hw (zTok_v hk (fun _ => zCh100) (fun e => by cases e)))) (zTok_v hk (fun e => by cases e) (fun _ => zBo1))) hk (fun _ q => by cases q)
theorem zK_bNum {h : zH} (hw : zWk h) {k : Nat} {l x : Int32} (hk : zS k = (0, 6, 6)) : zWk (zbNum h k l x) := by
  unfold zbNum
  split
  · exact zK_bReal hw hk
  · refine zK_bWhole hw hk ?_
    split
    · exact zCh105
    · exact zCh106
theorem zK_bEsc {h : zH} (hw : zWk h) {k : Nat} {x : Int64} {p : Int32} (hk : zS k = (0, 6, 6)) : zWk (zbEsc h k x p) := zK_I (zK_bWhole hw hk zCh107) (zTok_v hk (fun e => by cases e) (fun e => by cases e))
theorem zK_bRef {h : zH} (hw : zWk h) {k t : Nat} (hk : zS k = (0, 6, 6)) (ht : zTh t) : zWk (zbRef h k t) := zK_T (zK_bWhole hw hk zCh116) hk (fun _ q => by injection q with q; exact q ▸ ht)
theorem zK_cp {h : zH} (hw : zWk h) {k o : Nat} (hk : zS k = (0, 6, 6)) (ho : zS o = (0, 6, 6)) : zWk (zcp h k o) :=
  zK_T (zK_I (zK_J (zK_I (zK_D (zK_I hw (zTok_v hk (fun _ => (hw.2.1 o ho).1) (fun e => by cases e)))) (zTok_v hk (fun e => by cases e) (fun _ => (hw.2.1 o ho).2)))) (zTok_v hk (fun e => by cases e) (fun e => by cases e))) hk (fun t q => hw.1.2.1 o ho t q)
theorem zK_addIn {h : zH} (hw : zWk h) {k : Nat} {c : Int32} (hk : zS k = (0, 6, 6)) : zWk (zaddIn h k c) := by
  unfold zaddIn
  split
  · cases hq : h.2.2.2 k 5 with
    | none => exact hw
    | some t => exact zK_I hw (zTok_t (zTh_S (hw.1.2.1 k hk t hq)) (fun e => by cases e) (fun e => by cases e))
  · exact hw
theorem zK_addF {r : Nat} (hr : r < 60) {c : Int32} : ∀ (m i : Nat) (h : zH), i + m = 3 → zWk h → zWk (zaddF r c m i h)
  | 0, _, _, _, hw => hw
  | m + 1, i, _, e, hw => zK_addF hr m (i + 1) _ (by omega) (zK_addIn hw (zS_tval r hr i (by omega)))
theorem zK_free {h : zH} (hw : zWk h) {t : Nat} (ht : zS t = (0, 5, 6)) : zWk (zfree h t) := zK_I (zK_I hw (zTok_t ht (fun e => by cases e) (fun e => by cases e))) (zTok_o zS_2 (by decide) (by decide) (by decide) (by decide))
theorem zK_clr : ∀ (m i : Nat) (h : zH), i + m = 60 → zWk h → zWk (zclr m i h)
  | 0, _, _, _, hw => hw
  | m + 1, i, _, e, hw => zK_clr m (i + 1) _ (by omega) (zK_I hw (zTok_t (zS_thing i (by omega)) (fun e => by cases e) (fun e => by cases e)))
theorem zK_tg : ∀ (m i : Nat) (h : zH), i + m = 8 → zWk h → zWk (ztg m i h)
  | 0, _, _, _, hw => hw
  | m + 1, i, _, e, hw => zK_tg m (i + 1) _ (by omega) (zK_addIn hw (zS_val24 i (by omega)))
theorem zK_th : ∀ (m i : Nat) (h : zH), i + m = 60 → zWk h → zWk (zth m i h)
  | 0, _, _, _, hw => hw
  | m + 1, i, h, e, hw => by
    refine zK_th m (i + 1) (zth1 h i) (by omega) ?_
    unfold zth1
    split
    · exact zK_addF (by omega) 3 0 _ rfl hw
    · exact hw
theorem zK_tally {h : zH} (hw : zWk h) : zWk (ztally h) := zK_th 60 0 _ rfl (zK_tg 8 0 _ rfl (zK_clr 60 0 _ rfl hw))
