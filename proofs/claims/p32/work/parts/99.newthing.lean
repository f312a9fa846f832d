/-! a new thing, a call begun: what they keep -/
section ZNT
variable {h h' : zH} {T s d : Nat}
theorem znw_some {l : Int32} : ∀ (m i : Nat), i + m = 60 → ∀ t, (znw h l m i).1 = some t → ∃ r, r < 60 ∧ t = 30 + 5 * r ∧ h.1 (30 + 5 * r) 0 < 0 ∧ (znw h l m i).2 = znewH h r l
  | 0, _, _, _, q => by cases q
  | m + 1, i, e, t, q => by
    unfold znw at q ⊢
    split
    · rename_i hc
      rw [if_pos hc] at q
      injection q with q
      exact ⟨i, by omega, q.symm, hc, rfl⟩
    · rename_i hc
      rw [if_neg hc] at q
      exact znw_some m (i + 1) (by omega) t q
theorem zlv_new {r : Nat} (h0 : h.1 (30 + 5 * r) 0 < 0) (h1 : 0 ≤ h'.1 (30 + 5 * r) 0) : ∀ n, (∀ r', r' < n → r' ≠ r → h'.1 (30 + 5 * r') 0 = h.1 (30 + 5 * r') 0) → zlv h' n = zlv h n + (if r < n then 1 else 0)
  | 0, _ => rfl
  | n + 1, e => by
    unfold zlv
    rw [zlv_new h0 h1 n (fun r' hr hne => e r' (by omega) hne)]
    by_cases q : n = r
    · subst q
      rw [if_pos h1, if_neg (Int32.not_le.mpr h0), if_neg (by omega), if_pos (by omega)]
    · rw [e n (by omega) q]
      by_cases q2 : r < n
      · rw [if_pos q2, if_pos (show r < n + 1 by omega)]
        omega
      · rw [if_neg q2, if_neg (show ¬ r < n + 1 by omega)]
        omega
theorem zbg0_off {t : Nat} {n l : Int32} : zoff h (zbg0 h t n l) t := zoff_tr (zoff_tr (zoff_tr zoffI zoffI) zoffI) zoffI
theorem zbg0_0 {t : Nat} {n l : Int32} : (zbg0 h t n l).1 t 0 = n := by
  unfold zbg0
  rw [zupI_ne (fun q => by cases q.2), zupI_ne (fun q => by cases q.2), zupI_ne (fun q => by cases q.2)]
  exact zupI_at
theorem zbg0_1 {t : Nat} {n l : Int32} : (zbg0 h t n l).1 t 1 = l := by
  unfold zbg0
  rw [zupI_ne (fun q => by cases q.2), zupI_ne (fun q => by cases q.2)]
  exact zupI_at
/-- all of a thing's beginning -/
theorem zbegT_ok {r : Nat} {n l : Int32} (hw : zWk h) (hn : zNn h) (hr : r < 60) :
    zWk (zbegT h r n l) ∧ zNn (zbegT h r n l) ∧ (∀ c, c ≠ 30 + 5 * r → c ≠ 32 + 5 * r → c ≠ 33 + 5 * r → c ≠ 34 + 5 * r → (zbegT h r n l).1 c = h.1 c ∧ (zbegT h r n l).2.1 c = h.2.1 c ∧ (zbegT h r n l).2.2.2 c = h.2.2.2 c) ∧ (zbegT h r n l).1 (30 + 5 * r) 0 = n ∧ (zbegT h r n l).1 (30 + 5 * r) 1 = l ∧ ∀ f, f < 3 → (zbegT h r n l).1 (32 + 5 * r + f) 0 = znoOf l := by
  have e : zbegT h r n l = zbNothing (zbNothing (zbNothing (zbg0 h (30 + 5 * r) n l) (32 + 5 * r + 0) (znoOf l)) (32 + 5 * r + 1) (znoOf l)) (32 + 5 * r + 2) (znoOf l) := rfl
  have hw0 := zK_bg0 (n := n) (l := l) hw (zS_thing r hr)
  have hn0 : zNn (zbg0 h (30 + 5 * r) n l) := hn
  have v0 := zV_no (l := l) hw0 hn0 (zS_tval r hr 0 (by decide))
  have v1 := zV_no (l := l) v0.2.1 v0.2.2.1 (zS_tval r hr 1 (by decide))
  have v2 := zV_no (l := l) v1.2.1 v1.2.2.1 (zS_tval r hr 2 (by decide))
  rw [e]
  have z := zbg0_off (h := h) (t := 30 + 5 * r) (n := n) (l := l)
  refine ⟨v2.2.1, v2.2.2.1, fun c h1 h2 h3 h4 => ?_, ?_, ?_, fun f hf => ?_⟩
  · have a := z c h1
    have b0 := v0.1 c (by omega)
    have b1 := v1.1 c (by omega)
    have b2 := v2.1 c (by omega)
    exact ⟨b2.1.trans (b1.1.trans (b0.1.trans a.1)), b2.2.1.trans (b1.2.1.trans (b0.2.1.trans a.2.1)), b2.2.2.2.trans (b1.2.2.2.trans (b0.2.2.2.trans a.2.2.2))⟩
  · rw [(v2.1 _ (by omega)).1, (v1.1 _ (by omega)).1, (v0.1 _ (by omega)).1]
    exact zbg0_0
  · rw [(v2.1 _ (by omega)).1, (v1.1 _ (by omega)).1, (v0.1 _ (by omega)).1]
    exact zbg0_1
  · rcases (by omega : f = 0 ∨ f = 1 ∨ f = 2) with rfl | rfl | rfl
    · rw [(v2.1 _ (by omega)).1, (v1.1 _ (by omega)).1]
      exact zbNothing_k
    · rw [(v2.1 _ (by omega)).1]
      exact zbNothing_k
    · exact zbNothing_k
theorem zneg {x : Int32} (h0 : x < 0) (h1 : 0 ≤ x) : False := absurd h1 (Int32.not_le.mpr h0)
theorem znew_ok {r l : Nat} (hw : zWk h) (hn : zNn h) (H : zHI h) (hr : r < 60) (hl : l < 3) (h0 : h.1 (30 + 5 * r) 0 < 0) :
    zWk (znewH h r (nI l)) ∧ zNn (znewH h r (nI l)) ∧ zHI (znewH h r (nI l)) ∧ zGk h (znewH h r (nI l)) ∧ zSt h (znewH h r (nI l)) 0 ∧ zMk h (znewH h r (nI l)) ∧ 0 ≤ (znewH h r (nI l)).1 (30 + 5 * r) 0 ∧ (znewH h r (nI l)).1 (30 + 5 * r) 0 = h.1 2 4 := by
  obtain ⟨w, n, oth, n0, n1, nf⟩ := zbegT_ok (n := h.1 2 4) (l := nI l) hw hn hr
  have e : znewH h r (nI l) = zupI (zbegT h r (h.1 2 4) (nI l)) 2 4 (h.1 2 4 + Int32.ofInt (Int.ofNat 1)) := by
    unfold znewH
    rw [(oth 2 (by omega) (by omega) (by omega) (by omega)).1]
  rw [e]
  revert w n oth n0 n1 nf
  generalize zbegT h r (h.1 2 4) (nI l) = g
  intro w n oth n0 n1 nf
  have w2 : zWk (zupI g 2 4 (h.1 2 4 + Int32.ofInt (Int.ofNat 1))) := zK_I w (zTok_o zS_2 (by decide) (by decide) (by decide) (by decide))
  have I : ∀ c j, c ≠ 2 → (zupI g 2 4 (h.1 2 4 + Int32.ofInt (Int.ofNat 1))).1 c j = g.1 c j := fun c j hc => zupI_ne (fun q => hc q.1)
  obtain ⟨a, b, ⟨c1, c2⟩, F, hF, d1, d2⟩ := H
  have hlv : zlv h 60 ≤ 60 := by
    have : ∀ n, zlv h n ≤ n := by
      intro n
      induction n with
      | zero => exact Nat.le_refl _
      | succ n ih =>
        unfold zlv
        split <;> omega
    exact this 60
  have m0 : 0 ≤ h.1 2 4 := by
    rw [d2]
    exact nI_pos' (by omega)
  have tt : ∀ r', r' < 60 → r' ≠ r → ∀ j, (zupI g 2 4 (h.1 2 4 + Int32.ofInt (Int.ofNat 1))).1 (30 + 5 * r') j = h.1 (30 + 5 * r') j := fun r' hr' hne j => by
    rw [I _ _ (by omega), (oth (30 + 5 * r') (by omega) (by omega) (by omega) (by omega)).1]
  have t0 : (zupI g 2 4 (h.1 2 4 + Int32.ofInt (Int.ofNat 1))).1 (30 + 5 * r) 0 = h.1 2 4 := by rw [I _ _ (by omega)]; exact n0
  have t1 : (zupI g 2 4 (h.1 2 4 + Int32.ofInt (Int.ofNat 1))).1 (30 + 5 * r) 1 = nI l := by rw [I _ _ (by omega)]; exact n1
  have tm : (zupI g 2 4 (h.1 2 4 + Int32.ofInt (Int.ofNat 1))).1 2 4 = h.1 2 4 + Int32.ofInt (Int.ofNat 1) := zupI_at
  have tf : (zupI g 2 4 (h.1 2 4 + Int32.ofInt (Int.ofNat 1))).1 2 5 = h.1 2 5 := by
    rw [zupI_ne (fun q => by cases q.2), (oth 2 (by omega) (by omega) (by omega) (by omega)).1]
  have K : ∀ k, k ≠ 2 → k ≠ 30 + 5 * r → k ≠ 32 + 5 * r → k ≠ 33 + 5 * r → k ≠ 34 + 5 * r → zGd h k → zGd (zupI g 2 4 (h.1 2 4 + Int32.ofInt (Int.ofNat 1))) k := by
    intro k k2 k3 k4 k5 k6 gd e
    rw [I _ _ k2, (oth k k3 k4 k5 k6).1] at e
    obtain ⟨r', hr', e1, e2, e3⟩ := gd e
    have hne : r' ≠ r := fun q => by subst q; exact zneg h0 e2
    refine ⟨r', hr', ?_, ?_, ?_⟩
    · show g.2.2.2 k 5 = _
      rw [(oth k k3 k4 k5 k6).2.2]
      exact e1
    · rw [tt r' hr' hne]
      exact e2
    · rw [tt r' hr' hne]
      rw [I _ _ k2, (oth k k3 k4 k5 k6).1]
      show _ = g.2.1 k 3 ∧ _
      rw [(oth k k3 k4 k5 k6).2.1]
      exact e3
  have NF : ∀ f, f < 3 → (zupI g 2 4 (h.1 2 4 + Int32.ofInt (Int.ofNat 1))).1 (32 + 5 * r + f) 0 ≠ 116 := fun f hf => by
    rw [I _ _ (by omega), nf f hf]
    exact zno116
  have GK : zGk h (zupI g 2 4 (h.1 2 4 + Int32.ofInt (Int.ofNat 1))) := by
    refine ⟨fun k hk gd => ?_, ?_⟩
    · by_cases q : k = 32 + 5 * r ∨ k = 33 + 5 * r ∨ k = 34 + 5 * r
      · intro e
        have : ∃ f, f < 3 ∧ k = 32 + 5 * r + f := by
          rcases q with q | q | q
          · exact ⟨0, by decide, q⟩
          · exact ⟨1, by decide, by omega⟩
          · exact ⟨2, by decide, by omega⟩
        obtain ⟨f, hf, rfl⟩ := this
        exact absurd e (NF f hf)
      · exact K k (zne_o hk zS_2 (by omega)) (fun e => zvt hk hr e.symm) (by omega) (by omega) (by omega) gd
    · rw [I _ _ (by omega), (oth 1 (by omega) (by omega) (by omega) (by omega)).1]
  have P : ∀ k, zS k = (0, 6, 6) → k ≠ 32 + 5 * r → k ≠ 33 + 5 * r → k ≠ 34 + 5 * r → zGd h k → zpr h k → zpr (zupI g 2 4 (h.1 2 4 + Int32.ofInt (Int.ofNat 1))) k := by
    intro k hk k4 k5 k6 gd p e t ht e1
    have k2 := zne_o hk zS_2 (by omega)
    have k3 : k ≠ 30 + 5 * r := fun e => zvt hk hr e.symm
    rw [I _ _ k2, (oth k k3 k4 k5 k6).1] at e
    have ht : g.2.2.2 k 5 = some t := ht
    rw [(oth k k3 k4 k5 k6).2.2] at ht
    obtain ⟨r', hr', w1, w2, w3⟩ := gd e
    rw [w1] at ht
    injection ht with ht
    subst ht
    have hne : r' ≠ r := fun q => by subst q; exact zneg h0 w2
    rw [tt r' hr' hne] at e1 ⊢
    exact p e _ w1 e1
  refine ⟨w2, n, ⟨fun i hi => ?_, fun r' hr' => ?_, ⟨fun r' hr' => ?_, fun x y hx hy => ?_⟩, F, hF, tf.trans d1, ?_⟩, GK, ?_, ?_, by rw [t0]; exact m0, t0⟩
  · exact ⟨GK.1 _ (zS_val24 i hi) (a i hi).1, fun h8 => P _ (zS_val24 i hi) (by omega) (by omega) (by omega) (a i hi).1 ((a i hi).2 h8)⟩
  · by_cases q : r' = r
    · subst q
      intro _
      refine ⟨⟨l, hl, t1⟩, fun f hf => ⟨fun e => absurd e (NF f hf), fun _ e => absurd e (NF f hf)⟩⟩
    · rw [tt r' hr' q, tt r' hr' q]
      intro q0
      obtain ⟨b1, b2⟩ := b r' hr' q0
      exact ⟨b1, fun f hf => ⟨GK.1 _ (zS_tval r' hr' f hf) (b2 f hf).1, fun hq => P _ (zS_tval r' hr' f hf) (by omega) (by omega) (by omega) (b2 f hf).1 ((b2 f hf).2 hq)⟩⟩
  · rw [tm]
    by_cases q : r' = r
    · subst q
      rw [t0]
      intro _
      rw [d2, show nI (F + zlv h 60) + Int32.ofInt (Int.ofNat 1) = nI (F + zlv h 60 + 1) from nI_1 _]
      exact nI_lt (by omega) (by omega)
    · rw [tt r' hr' q]
      intro q0
      have g1 := c1 r' hr' q0
      rw [d2] at g1 ⊢
      rw [show nI (F + zlv h 60) + Int32.ofInt (Int.ofNat 1) = nI (F + zlv h 60 + 1) from nI_1 _]
      exact Int32.lt_of_lt_of_le g1 (nI_le (by omega) (by omega))
  · by_cases qx : x = r
    · subst qx
      by_cases qy : y = x
      · exact fun _ _ => qy.symm
      · rw [t0, tt y hy qy]
        intro _ e
        exfalso
        have g1 := c1 y hy (by rw [← e]; exact m0)
        rw [← e] at g1
        exact Int32.lt_irrefl g1
    · by_cases qy : y = r
      · subst qy
        rw [t0, tt x hx qx]
        intro q0 e
        exfalso
        have g1 := c1 x hx q0
        rw [e] at g1
        exact Int32.lt_irrefl g1
      · rw [tt x hx qx, tt y hy qy]
        exact c2 x y hx hy
  · rw [tm, zlv_new (h := h) (h' := zupI g 2 4 (h.1 2 4 + Int32.ofInt (Int.ofNat 1))) h0 (by rw [t0]; exact m0) 60 (fun r' hr' hne => tt r' hr' hne 0), if_pos hr, d2]
    exact nI_1 _
  · refine ⟨fun c h1 h2 => funext fun j => ?_, ?_, tf, ?_, 0, Nat.le_refl _, ?_, Or.inl ?_⟩
    · rw [I _ _ (by omega), (oth c (by omega) (by omega) (by omega) (by omega)).1]
    · rw [I _ _ (by omega), (oth 1 (by omega) (by omega) (by omega) (by omega)).1]
    · rw [tm, d2]
      rw [show nI (F + zlv h 60) + Int32.ofInt (Int.ofNat 1) = nI (F + zlv h 60 + 1) from nI_1 _, nI_toInt (by omega), nI_toInt (by omega)]
      omega
    · show g.2.1 1 8 = _
      rw [(oth 1 (by omega) (by omega) (by omega) (by omega)).2.1, show Int64.ofNat 0 = 0 from rfl, Int64.add_zero]
    · rw [I _ _ (by omega), (oth 1 (by omega) (by omega) (by omega) (by omega)).1]
  · refine ⟨?_, ?_, fun c hc => ?_⟩
    · rw [I _ _ (by omega), (oth 332 (by omega) (by omega) (by omega) (by omega)).1]
    · rw [I _ _ (by omega), (oth 1 (by omega) (by omega) (by omega) (by omega)).1]
    · rw [I _ _ (by omega), (oth (781 + 6 * c) (by omega) (by omega) (by omega) (by omega)).1]
/-! a call begun -/
theorem zcb_ok {c f : Nat} {n : Int32} {id : Int64} (R : zRI h T s d) (hc : c < 12) (hf : f < 10) (hcd : d ≤ c) : zRI (zcb h c f n id) T s d ∧ zSt h (zcb h c f n id) 0 ∧ zGk h (zcb h c f n id) ∧ (∀ l, l < 4 → zGd (zcb h c f n id) (783 + 6 * c + l)) := by
  have ho : zoff h (zcb0 h c f n id) (781 + 6 * c) := zoff_tr (zoff_tr (zoff_tr (zoff_tr zoffR zoffI) zoffJ) zoffI) zoffI
  have hv : ¬ zS (781 + 6 * c) = (0, 6, 6) := fun q => by rw [zS_call c hc] at q; cases q
  have g0 : zGk h (zcb0 h c f n id) := zGk_off ho (by omega) hv (ztc0 hc)
  have s0 : zSt h (zcb0 h c f n id) 0 := zSt_off ho (by omega) (by omega) (Or.inr (by omega))
  have b5 : (zcb0 h c f n id).1 (781 + 6 * c) 5 = h.1 (781 + 6 * c) 5 := by
    unfold zcb0
    rw [zupI_ne (fun q => by cases q.2), zupI_ne (fun q => by cases q.2)]
    show (zupI _ (781 + 6 * c) 1 n).1 (781 + 6 * c) 5 = _
    rw [zupI_ne (fun q => by cases q.2)]
    rfl
  have m0 : zMk h (zcb0 h c f n id) := by
    refine ⟨by rw [(ho 332 (by omega)).1], by rw [(ho 1 (by omega)).1], fun c' hc' => ?_⟩
    by_cases q : c' = c
    · subst q
      exact b5
    · rw [(ho _ (by omega)).1]
  have R0 : zRI (zcb0 h c f n id) T s d := zRI_keep R (zK_cb0 R.1 hc hf) R.2.1 (zHI_q R.1 (zHq_off ho (by omega) (Or.inr (by omega))) R.2.2.2.1) g0 s0 m0
  have e : zcb h c f n id = zbNothing (zbNothing (zbNothing (zbNothing (zcb0 h c f n id) (783 + 6 * c + 0) (znoOf (h.1 (751 + 3 * f) 0))) (783 + 6 * c + 1) (znoOf (h.1 (751 + 3 * f) 0))) (783 + 6 * c + 2) (znoOf (h.1 (751 + 3 * f) 0))) (783 + 6 * c + 3) (znoOf (h.1 (751 + 3 * f) 0)) := rfl
  have S := fun l hl => zS_cval c hc l hl
  have v0 := zV_no (l := h.1 (751 + 3 * f) 0) R0.1 R0.2.1 (S 0 (by decide))
  have R1 := zRI_vw R0 (S 0 (by decide)) (by omega) v0
  have v1 := zV_no (l := h.1 (751 + 3 * f) 0) R1.1 R1.2.1 (S 1 (by decide))
  have R2 := zRI_vw R1 (S 1 (by decide)) (by omega) v1
  have v2 := zV_no (l := h.1 (751 + 3 * f) 0) R2.1 R2.2.1 (S 2 (by decide))
  have R3 := zRI_vw R2 (S 2 (by decide)) (by omega) v2
  have v3 := zV_no (l := h.1 (751 + 3 * f) 0) R3.1 R3.2.1 (S 3 (by decide))
  have R4 := zRI_vw R3 (S 3 (by decide)) (by omega) v3
  have g1 := zGk_vw (S 0 (by decide)) v0
  have g2 := zGk_vw (S 1 (by decide)) v1
  have g3 := zGk_vw (S 2 (by decide)) v2
  have g4 := zGk_vw (S 3 (by decide)) v3
  rw [e]
  refine ⟨R4, ?_, zGk_tr g0 (zGk_tr g1 (zGk_tr g2 (zGk_tr g3 g4))), fun l hl => ?_⟩
  · exact zSt_tr s0 (zSt_tr (zSt_vw (S 0 (by decide)) v0) (zSt_tr (zSt_vw (S 1 (by decide)) v1) (zSt_tr (zSt_vw (S 2 (by decide)) v2) (zSt_vw (S 3 (by decide)) v3))))
  · rcases (by omega : l = 0 ∨ l = 1 ∨ l = 2 ∨ l = 3) with rfl | rfl | rfl | rfl
    · exact g4.1 _ (S 0 (by decide)) (g3.1 _ (S 0 (by decide)) (g2.1 _ (S 0 (by decide)) v0.2.2.2))
    · exact g4.1 _ (S 1 (by decide)) (g3.1 _ (S 1 (by decide)) v1.2.2.2)
    · exact g4.1 _ (S 2 (by decide)) v2.2.2.2
    · exact v3.2.2.2
end ZNT
