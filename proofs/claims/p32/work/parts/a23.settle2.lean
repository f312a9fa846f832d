/-! settle, to its end -/
theorem zneg1 : Int32.ofInt (Int.negSucc 0) = -1 := rfl
theorem zsubA {a b : Nat} : nI (a + b) + Int32.ofInt (Int.negSucc 0) * nI b = nI a := by
  rw [zneg1, ← nI_add, Int32.neg_mul, Int32.one_mul, Int32.add_assoc, Int32.add_right_neg, Int32.add_zero]
section ZS1
variable {h : zH} {i M : Nat}
/-- one thing without a count is freed -/
theorem zs1_Fr (hw : zWk h) (hi : i < 60) : zFr h (zfree (zaddF i (Int32.ofInt (Int.negSucc 0)) 3 0 h) (30 + 5 * i)) i := by
  have e := (zaddF_4 hi (t := 0) (c := Int32.ofInt (Int.negSucc 0)) 3 0 h rfl hw.1).1
  refine ⟨e.1, ?_, ?_, fun c s h4 h0 h5 => ?_⟩
  · show (zupI (zupI _ (30 + 5 * i) 0 _) 2 5 _).1 (30 + 5 * i) 0 = _
    rw [zupI_ne (fun q => by omega), zupI_at]
  · show (zupI (zupI _ (30 + 5 * i) 0 _) 2 5 _).1 2 5 = _
    rw [zupI_at, zTE_0 e (by decide)]
  · show (zupI (zupI _ (30 + 5 * i) 0 _) 2 5 _).1 c s = _
    rw [zupI_ne h5, zupI_ne h0]
    exact e.2 c s h4
theorem zs1_4 (hw : zWk h) (T : zTl h) (hi : i < 60) (ho : zisOf h (30 + 5 * i) 0 = true) : zTl (zfree (zaddF i (Int32.ofInt (Int.negSucc 0)) 3 0 h) (30 + 5 * i)) := by
  intro r hr
  have A := zs1_Fr hw hi
  have e := (zaddF_4 hi (t := 30 + 5 * r) (c := Int32.ofInt (Int.negSucc 0)) 3 0 h rfl hw.1).2
  have e4 : (zfree (zaddF i (Int32.ofInt (Int.negSucc 0)) 3 0 h) (30 + 5 * i)).1 (30 + 5 * r) 4 = (zaddF i (Int32.ofInt (Int.negSucc 0)) 3 0 h).1 (30 + 5 * r) 4 := by
    show (zupI (zupI _ (30 + 5 * i) 0 _) 2 5 _).1 (30 + 5 * r) 4 = _
    rw [zupI_ne (fun q => by omega), zupI_ne (fun q => by cases q.2)]
  rw [e4, e, T r hr, zFr_kN A hi ho]
  exact zsubA
theorem zFr_Se {h' : zH} (A : zFr h h' i) (hi : i < 60) : zSe h h' := by
  refine ⟨A.two, fun c s p q => A.off c s (fun w => p ⟨w.2, Or.inl w.1⟩) (fun w => p ⟨⟨i, hi, w.1⟩, Or.inr w.2⟩) q, fun r hr => ?_⟩
  by_cases q : r = i
  · subst q
    rw [A.at0]
    exact Or.inr (by decide)
  · exact Or.inl (zFr_th A (by decide) (fun w => q w.1))
/-- what a round keeps -/
def zSv (h : zH) (M : Nat) : Prop := zWk h ∧ zHI h ∧ zTl h ∧ h.1 2 4 = nI M
theorem zfb_iff (T : zTl h) (hi : i < 60) : (zisOf h (30 + 5 * i) (Int32.ofInt (Int.ofNat 0)) = true ∧ zown h (30 + 5 * i) = 0) ↔ zfb h i := by
  unfold zfb
  rw [zown_ow T hi]
  refine and_congr_right fun _ => ⟨fun q => ?_, fun q => by rw [q]; rfl⟩
  have := zow_le (h := h) (t := 30 + 5 * i)
  exact (nI_eq (b := 0) (by omega) (by decide)).mp q
theorem zs1_ok (hM : M ≤ 1000000) (S : zSv h M) (hi : i < 60) {c : Int32} : (¬ zfb h i ∧ zs1 c h i = (c, h)) ∨ (zfb h i ∧ (zs1 c h i).1 = Int32.ofInt (Int.ofNat 1) ∧ zSv (zs1 c h i).2 M ∧ zSe h (zs1 c h i).2 ∧ zlv (zs1 c h i).2 60 + 1 = zlv h 60) := by
  obtain ⟨hw, H, T, hm⟩ := S
  by_cases q : zfb h i
  · have e : zs1 c h i = (Int32.ofInt (Int.ofNat 1), zfree (zaddF i (Int32.ofInt (Int.negSucc 0)) 3 0 h) (30 + 5 * i)) := by
      unfold zs1
      rw [if_pos ((zfb_iff T hi).mpr q)]
    have A := zs1_Fr hw hi
    have h0 := (zisOf_i.mp q.1).1
    have hK : zWk (zs1 c h i).2 := zK_s1 hw hi
    rw [e] at hK ⊢
    have lv := zFr_lv A h0 60
    rw [if_pos hi] at lv
    refine Or.inr ⟨q, rfl, ⟨hK, zFr_HI A hi hw H hM hm h0 (fun x hx e => zfb_G H q hx e) (fun j f hj _ hl hf e => zfb_F H q hj hl hf e), zs1_4 hw T hi q.1, ?_⟩, zFr_Se A hi, lv.symm⟩
    exact (A.off 2 4 (fun w => by have := zTh_ge w.2; omega) (fun w => by omega) (fun w => by omega)).trans hm
  · refine Or.inl ⟨q, ?_⟩
    unfold zs1
    rw [if_neg (fun w => q ((zfb_iff T hi).mp w))]
end ZS1
theorem zsP_ok {M : Nat} (hM : M ≤ 1000000) : ∀ (m i : Nat) (c : Int32) (h : zH), i + m = 60 → zSv h M → zSv (zsP m i c h).2 M ∧ zSe h (zsP m i c h).2 ∧ zlv (zsP m i c h).2 60 ≤ zlv h 60 ∧
    ((zsP m i c h).1 = 0 → c = 0 ∧ (zsP m i c h).2 = h ∧ ∀ j, i ≤ j → j < 60 → ¬ zfb h j) ∧ (c = 0 → (zsP m i c h).1 ≠ 0 → zlv (zsP m i c h).2 60 < zlv h 60)
  | 0, i, c, h, e, S => ⟨S, zSe_refl, Nat.le_refl _, fun q => ⟨q, rfl, fun j h1 h2 => by omega⟩, fun q1 q2 => absurd q1 q2⟩
  | m + 1, i, c, h, e, S => by
    have u : zsP (m + 1) i c h = zsP m (i + 1) (zs1 c h i).1 (zs1 c h i).2 := rfl
    rw [u]
    rcases zs1_ok hM S (i := i) (by omega) (c := c) with ⟨q, w⟩ | ⟨q, w1, w2, w3, w4⟩
    · rw [w]
      obtain ⟨a, b, d, f, g⟩ := zsP_ok hM m (i + 1) c h (by omega) S
      refine ⟨a, b, d, fun z => ⟨(f z).1, (f z).2.1, fun j h1 h2 => ?_⟩, g⟩
      by_cases hj : j = i
      · subst hj
        exact q
      · exact (f z).2.2 j (by omega) h2
    · obtain ⟨a, b, d, f, g⟩ := zsP_ok hM m (i + 1) (zs1 c h i).1 (zs1 c h i).2 (by omega) w2
      refine ⟨a, zSe_tr w3 b, by omega, fun z => ?_, fun _ _ => by omega⟩
      have := (f z).1
      rw [w1] at this
      exact absurd this (by decide)
theorem zSd_of {h : zH} (n : ∀ j, 0 ≤ j → j < 60 → ¬ zfb h j) : zSd h := fun r hr ho => by
  have := n r (Nat.zero_le _) hr
  by_cases q : 1 ≤ zow h (30 + 5 * r)
  · exact q
  · exact absurd ⟨ho, by omega⟩ this
theorem zsL_ok {M : Nat} (hM : M ≤ 1000000) : ∀ (m j : Nat) (c : Int32) (h : zH), zSv h M → (c = 0 → zSd h) → (c ≠ 0 → zlv h 60 < m) → zSv (zsL m j c h) M ∧ zSe h (zsL m j c h) ∧ zSd (zsL m j c h)
  | 0, j, c, h, S, s1, s2 => by
    by_cases q : c = 0
    · exact ⟨S, zSe_refl, s1 q⟩
    · exact absurd (s2 q) (by omega)
  | m + 1, j, c, h, S, s1, s2 => by
    unfold zsL
    split
    · rename_i q
      exact ⟨S, zSe_refl, s1 q⟩
    · rename_i q
      obtain ⟨a, b, d, f, g⟩ := zsP_ok hM 60 0 (Int32.ofInt (Int.ofNat 0)) h rfl S
      have l := s2 q
      obtain ⟨a2, b2, d2⟩ := zsL_ok hM m (j + 1) (zsP 60 0 (Int32.ofInt (Int.ofNat 0)) h).1 (zsP 60 0 (Int32.ofInt (Int.ofNat 0)) h).2 a (fun z => by rw [(f z).2.1]; exact zSd_of (f z).2.2) (fun z => by have := g rfl z; omega)
      exact ⟨a2, zSe_tr b b2, d2⟩
theorem zHI_TE {g h : zH} (e : zTE g h) (hw : zWk h) (H : zHI h) : zHI g := by
  obtain ⟨a, b, ⟨c1, c2⟩, F, hF, d1, d2⟩ := H
  have E : ∀ c s, s ≠ 4 → g.1 c s = h.1 c s := fun c s hs => zTE_0 e hs
  have P : ∀ k, zpr h k → zpr g k := fun k p => by
    intro q t ht q1
    rw [E _ _ (by decide)] at q q1 ⊢
    rw [zTE_R e] at ht
    exact p q t ht q1
  have t2 : g.1 2 = h.1 2 := zTE_n e zTh_2
  refine ⟨fun i hi => ⟨zTE_Gd e (a i hi).1, fun h8 => P _ ((a i hi).2 h8)⟩, fun r hr q => ?_, ⟨fun r hr q => ?_, fun r s hr hs q w => ?_⟩, F, hF, ?_, ?_⟩
  · rw [E _ _ (by decide)] at q
    rw [E _ 1 (by decide)]
    exact ⟨(b r hr q).1, fun f hf => ⟨zTE_Gd e ((b r hr q).2 f hf).1, fun hl => P _ (((b r hr q).2 f hf).2 hl)⟩⟩
  · rw [E _ _ (by decide)] at q ⊢
    rw [t2]
    exact c1 r hr q
  · rw [E _ _ (by decide)] at q
    rw [E _ _ (by decide), E _ _ (by decide)] at w
    exact c2 r s hr hs q w
  · rw [t2]
    exact d1
  · rw [t2, zlv_q (h := h) (h' := g) 60 (fun r _ => E _ _ (by decide))]
    exact d2
/-- settle -/
theorem zsettle_ok {h : zH} {M : Nat} (hM : M ≤ 1000000) (hw : zWk h) (H : zHI h) (hm : h.1 2 4 = nI M) : zWk (zsettle h) ∧ zHI (zsettle h) ∧ zSd (zsettle h) ∧ zSe h (zsettle h) := by
  have e := ztally_TE hw.1
  obtain ⟨a, b, c⟩ := zsL_ok hM 61 0 (Int32.ofInt (Int.ofNat 1)) (ztally h) ⟨zK_tally hw, zHI_TE e hw H, zTl_tally hw.1, by rw [zTE_n e zTh_2]; exact hm⟩ (fun q => absurd q (by decide)) (fun _ => by have := zlv_le (h := ztally h) 60; omega)
  exact ⟨a.1, a.2.1, c, zSe_tr (zSe_TE e) b⟩
theorem zSe_St {h h' : zH} (e : zSe h h') : (∀ c, 330 ≤ c → h'.1 c = h.1 c) ∧ h'.1 1 = h.1 1 ∧ h'.1 2 4 = h.1 2 4 ∧ h'.2 = h.2 :=
  ⟨fun c hc => funext fun s => e.2.1 c s (fun q => by have := zTh_ge q.1; omega) (fun q => by omega), funext fun s => e.2.1 1 s (fun q => by have := zTh_ge q.1; omega) (fun q => by omega), e.2.1 2 4 (fun q => by have := zTh_ge q.1; omega) (fun q => by omega), e.1⟩
theorem zSe_BI {h h' : zH} (e : zSe h h') (B : zBI h) (hw : zWk h') (H : zHI h') : zBI h' := by
  obtain ⟨s1, s2, s3, s4⟩ := zSe_St e
  obtain ⟨_, n, f, _⟩ := B
  refine ⟨hw, fun k hk => ?_, ⟨fun j hj => ?_, ?_⟩, H⟩
  · rw [s4]
    exact n k hk
  · rw [s1 _ (by omega)]
    exact f.1 j hj
  · rw [s2]
    exact f.2
