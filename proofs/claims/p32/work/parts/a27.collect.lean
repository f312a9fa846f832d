/-! the collections -/
def zVl (h g : zH) : Prop := (∀ k, zS k = (0, 6, 6) → ∀ s, g.1 k s = h.1 k s) ∧ (∀ k, zS k = (0, 6, 6) → g.2.2.2 k = h.2.2.2 k) ∧ ∀ r, g.1 (30 + 5 * r) 1 = h.1 (30 + 5 * r) 1
theorem zVl_tr {h g k : zH} (a : zVl h g) (b : zVl g k) : zVl h k := ⟨fun c hc s => (b.1 c hc s).trans (a.1 c hc s), fun c hc => (b.2.1 c hc).trans (a.2.1 c hc), fun r => (b.2.2 r).trans (a.2.2 r)⟩
theorem zVl_ed {h g : zH} (a : zVl h g) {b : Int32} {k r : Nat} (hk : zS k = (0, 6, 6)) : zed g b k r ↔ zed h b k r := by
  unfold zed
  rw [a.1 k hk, a.2.1 k hk, a.2.2]
theorem zv_nth {k : Nat} (hk : zS k = (0, 6, 6)) : ¬ zTh k := fun q => by have e := zTh_S q; rw [hk] at e; cases e
theorem zVl_TE {h g : zH} (e : zTE g h) : zVl h g := ⟨fun k hk s => e.2 k s (fun q => zv_nth hk q.2), fun k _ => congrFun (zTE_R e) k, fun r => zTE_0 e (by decide)⟩
theorem zVl_Qx {h g : zH} (e : zQx h g) : zVl h g := ⟨fun k hk s => zQx_v e hk, fun k hk => e.2.2.1 k (zne_o hk zS_5 (by omega)), fun r => zQx_th e (by omega)⟩
theorem zVl_Q3 {h g : zH} (e : zQ3 h g) : zVl h g := ⟨fun k hk s => e.2 k s (fun q => zv_nth hk q.1), fun k _ => congrFun (zQ3_R e) k, fun r => zQ3_0 e (by decide)⟩
theorem zVl_Se {h g : zH} (e : zSe h g) : zVl h g := ⟨fun k hk s => e.2.1 k s (fun q => zv_nth hk q.1) (fun q => zne_o hk zS_2 (by omega) q.1), fun k _ => congrFun (congrArg (fun z => z.2.2) e.1) k, fun r => e.2.1 _ 1 (fun q => by omega) (fun q => by omega)⟩
theorem zCnt_same {h g : zH} (C : zCnt h) (e4 : g.1 2 4 = h.1 2 4) (e5 : g.1 2 5 = h.1 2 5) (e0 : ∀ r, r < 60 → g.1 (30 + 5 * r) 0 = h.1 (30 + 5 * r) 0) : zCnt g := by
  obtain ⟨F, hF, d1, d2⟩ := C
  exact ⟨F, hF, e5.trans d1, by rw [e4, zlv_q (h := h) (h' := g) 60 e0]; exact d2⟩
def zg2 (h : zH) (b : Int32) : zH := zfu b 60 0 (zrR (ztally h) b)
def zg3 (h : zH) (b : Int32) : zH := zfrL b 60 0 (zg2 h b)
theorem zg3_e {h : zH} {b : Int32} : zg3 h b = zfrL b 60 0 (zg2 h b) := rfl
def zg4 (h : zH) (b : Int32) : zH := zrenew (zg3 h b)
theorem zfreeU_e {h : zH} {b : Int32} : zfreeU h b = zsettle (zg4 h b) := rfl
section ZCL
variable {h : zH} {b : Int32} {M : Nat}
theorem zg2_q (hw : zWk h) : zQ5 (ztally h) (zg2 h b) := (zreach_ok (P := fun _ => True) (zK_tally hw) (fun _ _ _ _ => trivial) (fun _ _ _ => trivial) (fun _ _ _ _ _ _ _ => trivial)).1
theorem zg2_0 (hw : zWk h) {r s : Nat} (h5 : s ≠ 5) (h4 : s ≠ 4) : (zg2 h b).1 (30 + 5 * r) s = h.1 (30 + 5 * r) s := (zQ5_th (zg2_q hw) h5).trans (zTE_0 (ztally_TE hw.1) h4)
theorem zg2_2 (hw : zWk h) {s : Nat} (h3 : s ≠ 3) : (zg2 h b).1 2 s = h.1 2 s := ((zg2_q hw).2.2.2 2 s (fun q => zTh_2 q.1) (fun q => h3 q.2)).trans ((ztally_TE hw.1).2 2 s (fun q => zTh_2 q.2))
theorem zg2_c (hw : zWk h) : zQ5 (ztally h) (zg2 h b) ∧ (∀ x, x < 24 → ∀ r, zed (ztally h) b (6 + x) r → zfg (zg2 h b) r) ∧ (∀ r, r < 60 → zrt (ztally h) b r → zfg (zg2 h b) r) ∧ ∀ t, t < 60 → zfg (zg2 h b) t → ∀ f, f < 3 → ∀ r, zed (ztally h) b (32 + 5 * t + f) r → zfg (zg2 h b) r := by
  obtain ⟨q5, -, C1, C2, C3⟩ := zreach_ok (b := b) (P := fun _ => True) (zK_tally hw) (fun _ _ _ _ => trivial) (fun _ _ _ => trivial) (fun _ _ _ _ _ _ _ => trivial)
  exact ⟨q5, C1, C2, C3⟩
theorem zg3_ok (hM : M ≤ 1000000) (hw : zWk h) (H : zHI h) (hm : h.1 2 4 = nI M) : zHI (zg3 h b) ∧ zWk (zg3 h b) ∧ zQx h (zg3 h b) ∧ (∀ r, r < 60 → ¬ zcan (zg2 h b) b r → (zg3 h b).1 (30 + 5 * r) 0 = h.1 (30 + 5 * r) 0) ∧ (∀ r, r < 60 → 0 ≤ (zg3 h b).1 (30 + 5 * r) 0 → ¬ zcan (zg2 h b) b r) ∧ ((∀ r, r < 60 → ¬ zcan (zg2 h b) b r) → (zg3 h b).1 2 5 = h.1 2 5) := by
  have e := ztally_TE hw.1
  have hw0 := zK_tally hw
  obtain ⟨q5, C1, C2, C3⟩ := zg2_c (b := b) hw
  have Cg := zCnt_same (g := zg2 h b) H.2.2.2 (zg2_2 hw (by decide)) (zg2_2 hw (by decide)) (fun r _ => zg2_0 hw (by decide) (by decide))
  obtain ⟨f1, f2, f3, f4, f5, f6⟩ := zfrL_ok (b := b) hM 60 0 (zg2 h b) rfl Cg ((zg2_2 hw (by decide)).trans hm)
  rw [← zg3_e] at f1 f2 f3 f4 f5 f6
  have Q : zQx h (zg3 h b) := ⟨(congrArg Prod.fst f1).trans (q5.1.trans (congrArg Prod.fst e.1)), (congrArg (fun z => z.2.1) f1).trans (q5.2.1.trans (congrArg (fun z => z.2.1) e.1)), fun c hc => (congrFun (congrArg (fun z => z.2.2) f1) c).trans ((q5.2.2.1 c hc).trans (congrFun (zTE_R e) c)),
    fun c s p q => (f2 c s (fun w => p ⟨w.1, Or.inl w.2⟩) (fun w => q ⟨w.1, Or.inr w.2⟩)).trans ((q5.2.2.2 c s (fun w => p ⟨w.1, Or.inr (Or.inr w.2)⟩) (fun w => q ⟨w.1, Or.inl w.2⟩)).trans (e.2 c s (fun w => p ⟨w.2, Or.inr (Or.inl w.1)⟩)))⟩
  have N : ∀ r, r < 60 → ¬ zcan (zg2 h b) b r → (zg3 h b).1 (30 + 5 * r) 0 = h.1 (30 + 5 * r) 0 := fun r hr n => (f4 r hr (fun z => n z.2)).trans (zg2_0 hw (by decide) (by decide))
  have L : ∀ r, r < 60 → 0 ≤ (zg3 h b).1 (30 + 5 * r) 0 → ¬ zcan (zg2 h b) b r := fun r hr q c => by
    have := f3 r hr (Nat.zero_le _) c
    rw [this] at q
    exact absurd q (by decide)
  have LD : ∀ r, zcan (zg2 h b) b r → (b ≠ 0 ∨ (ztally h).1 (30 + 5 * r) 1 ≠ 0) := fun r c => by
    have := c.2.1
    rw [zQ5_th (zg2_q hw) (by decide)] at this
    exact this
  have ED : ∀ k r, r < 60 → h.1 k 0 = 116 → h.2.2.2 k 5 = some (30 + 5 * r) → zcan (zg2 h b) b r → zed (ztally h) b k r := fun k r hr e0 e1 c => ⟨hr, by rw [zTE_0 e (by decide)]; exact e0, by rw [zTE_R e]; exact e1, LD r c⟩
  refine ⟨zHI_sub Q hw H f5 (fun r hr => ?_) (fun x hx r hr e0 e1 => N r hr fun c => C1 x hx r (ED _ r hr e0 e1 c) c.2.2) (fun j f hj q hf r hr e0 e1 => N r hr fun c => ?_), zK_frL 60 0 _ rfl (zK_fU4 hw), Q, N, L, fun n => ?_⟩
  · by_cases c : zcan (zg2 h b) b r
    · refine Or.inr ?_
      have := f3 r hr (Nat.zero_le _) c
      rw [this]
      decide
    · exact Or.inl (N r hr c)
  · have nj := L j hj q
    have j0 : 0 ≤ h.1 (30 + 5 * j) 0 := by rw [← N j hj nj]; exact q
    by_cases fj : (zg2 h b).1 (30 + 5 * j) 5 = 0
    · have lj : b = 0 ∧ h.1 (30 + 5 * j) 1 = 0 := by
        by_cases b0 : b = 0
        · refine ⟨b0, ?_⟩
          by_cases l0 : h.1 (30 + 5 * j) 1 = 0
          · exact l0
          · exact absurd ⟨by rw [zg2_0 hw (by decide) (by decide)]; exact j0, Or.inr (by rw [zg2_0 hw (by decide) (by decide)]; exact l0), fj⟩ nj
        · exact absurd ⟨by rw [zg2_0 hw (by decide) (by decide)]; exact j0, Or.inl b0, fj⟩ nj
      have lr : h.1 (30 + 5 * r) 1 ≠ 0 := by
        rcases LD r c with w | w
        · exact absurd lj.1 w
        · rw [zTE_0 e (by decide)] at w
          exact w
      have k1 := zow_F hj hf (zisOf_i.mpr ⟨j0, lj.2⟩) e0 e1
      have kl := zkN_le (h := h) (t := 30 + 5 * r)
      unfold zow at k1
      rw [if_neg (fun w => lr w.1)] at k1
      refine C2 r hr ⟨lj.1, ?_, ?_, ?_⟩ c.2.2
      · have := c.1
        rw [zQ5_th (zg2_q hw) (by decide)] at this
        exact this
      · rw [zTE_0 e (by decide)]
        exact lr
      · rw [ztally_4 hw.1 hr]
        exact nI_lt (a := 0) (by omega) (by omega)
    · exact C3 j hj fj f hf r (ED _ r hr e0 e1 c) c.2.2
  · have E := f6 (fun r _ hr => n r hr)
    rw [E]
    exact zg2_2 hw (by decide)
theorem zg4_ok (hM : M ≤ 1000000) (hw : zWk h) (H : zHI h) (hm : h.1 2 4 = nI M) : zHI (zg4 h b) ∧ zWk (zg4 h b) ∧ zQ3 (zg3 h b) (zg4 h b) := by
  obtain ⟨a, w, -⟩ := zg3_ok (b := b) hM hw H hm
  obtain ⟨c, d⟩ := zrenew_ok w a
  exact ⟨c, zK_renew w, d⟩
/-- what a collection keeps -/
theorem zfreeU_ok (hM : M ≤ 1000000) (B : zBI h) (hm : h.1 2 4 = nI M) : zBI (zfreeU h b) ∧ zSd (zfreeU h b) ∧ (∀ c, 330 ≤ c → (zfreeU h b).1 c = h.1 c) ∧ (zfreeU h b).1 1 = h.1 1 ∧ (zfreeU h b).1 2 4 = h.1 2 4 ∧ (zfreeU h b).2.1 = h.2.1 ∧ zVl h (zfreeU h b) ∧ ∀ r, r < 60 → (zfreeU h b).1 (30 + 5 * r) 0 = h.1 (30 + 5 * r) 0 ∨ (zfreeU h b).1 (30 + 5 * r) 0 < 0 := by
  rw [zfreeU_e]
  obtain ⟨hw, hn, hf, H⟩ := B
  obtain ⟨-, -, Q, N, L, -⟩ := zg3_ok (b := b) hM hw H hm
  obtain ⟨a, w, d⟩ := zg4_ok (b := b) hM hw H hm
  have m3 : (zg3 h b).1 2 4 = h.1 2 4 := Q.2.2.2 2 4 (fun q => zTh_2 q.1) (fun q => by omega)
  have m4 : (zg4 h b).1 2 4 = h.1 2 4 := (d.2 2 4 (fun q => zTh_2 q.1)).trans m3
  obtain ⟨s1, s2, s3, s4⟩ := zsettle_ok hM w a (m4.trans hm)
  obtain ⟨t1, t2, t3, t4⟩ := zSe_St s4
  have big : ∀ c, 330 ≤ c → (zsettle (zg4 h b)).1 c = h.1 c := fun c hc => (t1 c hc).trans (funext fun s => (d.2 c s (fun q => by have := zTh_ge q.1; omega)).trans (Q.2.2.2 c s (fun q => by have := zTh_ge q.1; omega) (fun q => by omega)))
  have one : (zsettle (zg4 h b)).1 1 = h.1 1 := t2.trans (funext fun s => (d.2 1 s (fun q => zTh_1 q.1)).trans (Q.2.2.2 1 s (fun q => zTh_1 q.1) (fun q => by omega)))
  have two : (zsettle (zg4 h b)).2.1 = h.2.1 := (congrArg Prod.fst t4).trans ((congrArg Prod.fst d.1).trans Q.1)
  have dd : (zsettle (zg4 h b)).2.2.1 = h.2.2.1 := (congrArg (fun z => z.2.1) t4).trans ((congrArg (fun z => z.2.1) d.1).trans Q.2.1)
  refine ⟨⟨s1, fun k hk => ?_, ⟨fun j hj => ?_, ?_⟩, s2⟩, s3, big, one, t3.trans m4, two, zVl_tr (zVl_Qx Q) (zVl_tr (zVl_Q3 d) (zVl_Se s4)), fun r hr => ?_⟩
  · rw [dd]
    exact hn k hk
  · rw [big _ (by omega)]
    exact hf.1 j hj
  · rw [one]
    exact hf.2
  · rcases s4.2.2 r hr with q | q
    · rw [q, zQ3_0 d (by decide)]
      by_cases l0 : 0 ≤ (zg3 h b).1 (30 + 5 * r) 0
      · exact Or.inl (N r hr (L r hr l0))
      · exact Or.inr (Int32.not_le.mp l0)
    · exact Or.inr q
/-- what is reached is there, and something that stays refers to it -/
theorem zg2_in (hb : b ≠ 0) (hw : zWk h) (H : zHI h) {r : Nat} (hr : r < 60) (f : zfg (zg2 h b) r) : 0 ≤ h.1 (30 + 5 * r) 0 ∧ ((∃ x, x < 24 ∧ h.1 (6 + x) 0 = 116 ∧ h.2.2.2 (6 + x) 5 = some (30 + 5 * r)) ∨ ∃ t f, t < 60 ∧ f < 3 ∧ zfg (zg2 h b) t ∧ h.1 (32 + 5 * t + f) 0 = 116 ∧ h.2.2.2 (32 + 5 * t + f) 5 = some (30 + 5 * r)) := by
  have e := ztally_TE hw.1
  have hw0 := zK_tally hw
  obtain ⟨q5, -, C1, C2, C3⟩ := zreach_ok (b := b) (P := fun _ => True) hw0 (fun _ _ _ _ => trivial) (fun _ _ _ => trivial) (fun _ _ _ _ _ _ _ => trivial)
  have dn : ∀ k r, zed (ztally h) b k r → h.1 k 0 = 116 ∧ h.2.2.2 k 5 = some (30 + 5 * r) := fun k r q => ⟨by rw [← zTE_0 e (by decide)]; exact q.2.1, by rw [← zTE_R e]; exact q.2.2.1⟩
  have gd : ∀ k r, zGd h k → zed (ztally h) b k r → 0 ≤ h.1 (30 + 5 * r) 0 := fun k r g q => by
    obtain ⟨a1, a2⟩ := dn k r q
    obtain ⟨r', hr', e1, e2, -⟩ := g a1
    rw [a2] at e1
    injection e1 with e1
    have : r = r' := by omega
    rw [this]
    exact e2
  obtain ⟨-, M1, -⟩ := zreach_ok (b := b) (P := fun r => 0 ≤ h.1 (30 + 5 * r) 0) hw0 (fun x hx r q => gd _ r (H.1 x hx).1 q) (fun r _ q => absurd q.1 hb) (fun t ht p f hf r q => gd _ r ((H.2.1 t ht p).2 f hf).1 q)
  obtain ⟨-, M2, -⟩ := zreach_ok (b := b) (P := fun r => (∃ x, x < 24 ∧ zed (ztally h) b (6 + x) r) ∨ ∃ t f, t < 60 ∧ f < 3 ∧ zfg (zg2 h b) t ∧ zed (ztally h) b (32 + 5 * t + f) r) hw0 (fun x hx r q => Or.inl ⟨x, hx, q⟩) (fun r _ q => absurd q.1 hb) (fun t ht p f hf r q => by
    refine Or.inr ⟨t, f, ht, hf, ?_, q⟩
    rcases p with ⟨x, hx, w⟩ | ⟨t', f', ht', hf', g', w⟩
    · exact C1 x hx t w
    · exact C3 t' ht' g' f' hf' t w)
  refine ⟨M1 r hr f, ?_⟩
  rcases M2 r hr f with ⟨x, hx, w⟩ | ⟨t, f', ht, hf', g', w⟩
  · exact Or.inl ⟨x, hx, dn _ _ w⟩
  · exact Or.inr ⟨t, f', ht, hf', g', dn _ _ w⟩
theorem zg4_Sd (hb : b ≠ 0) (hM : M ≤ 1000000) (hw : zWk h) (H : zHI h) (hm : h.1 2 4 = nI M) : zSd (zg4 h b) := by
  obtain ⟨-, -, Q, N, L, -⟩ := zg3_ok (b := b) hM hw H hm
  obtain ⟨H4, w4, d⟩ := zg4_ok (b := b) hM hw H hm
  have V := zVl_tr (zVl_Qx Q) (zVl_Q3 d)
  intro r hr ho
  obtain ⟨o1, o2⟩ := zisOf_i.mp ho
  have lv3 : 0 ≤ (zg3 h b).1 (30 + 5 * r) 0 := by rw [← zQ3_0 d (by decide)]; exact o1
  have nc := L r hr lv3
  have fr : zfg (zg2 h b) r := fun q => nc ⟨by rw [zg2_0 hw (by decide) (by decide), ← N r hr nc]; exact lv3, Or.inl hb, q⟩
  have up : ∀ k, zS k = (0, 6, 6) → h.1 k 0 = 116 ∧ h.2.2.2 k 5 = some (30 + 5 * r) → (zg4 h b).1 k 0 = 116 ∧ (zg4 h b).2.2.2 k 5 = some (30 + 5 * r) := fun k hk q => ⟨by rw [V.1 k hk]; exact q.1, by rw [V.2.1 k hk]; exact q.2⟩
  rcases (zg2_in hb hw H hr fr).2 with ⟨x, hx, a⟩ | ⟨t, f, ht, hf, g, a⟩
  · have u := up _ (zS_val24 x hx) a
    by_cases h8 : x < 8
    · exact zow_G h8 u.1 u.2
    · exact zow_P o2 ((H4.1 x hx).2 (by omega) u.1 _ u.2 o2)
  · have u := up _ (zS_tval t ht f hf) a
    have t0 := (zg2_in hb hw H ht g).1
    have t3 := N t ht (fun c => g c.2.2)
    have t4 : 0 ≤ (zg4 h b).1 (30 + 5 * t) 0 := by rw [zQ3_0 d (by decide), t3]; exact t0
    by_cases l0 : (zg4 h b).1 (30 + 5 * t) 1 = 0
    · exact zow_F ht hf (zisOf_i.mpr ⟨t4, l0⟩) u.1 u.2
    · exact zow_P o2 (((H4.2.1 t ht t4).2 f hf).2 l0 u.1 _ u.2 o2)
/-- a second collection of rings frees nothing -/
theorem zfreeU_2 (hb : b ≠ 0) (hM : M ≤ 1000000) (B : zBI h) (hm : h.1 2 4 = nI M) : (zfreeU (zfreeU h b) b).1 2 5 = (zfreeU h b).1 2 5 := by
  obtain ⟨B1, -, -, -, m1, -, V1, -⟩ := zfreeU_ok (b := b) hM B hm
  have hm1 := m1.trans hm
  obtain ⟨hw, hn, hf, H⟩ := B
  obtain ⟨-, -, Q, N, L, -⟩ := zg3_ok (b := b) hM hw H hm
  obtain ⟨H4, w4, d⟩ := zg4_ok (b := b) hM hw H hm
  have S4 := zg4_Sd hb hM hw H hm
  obtain ⟨hw1, -, -, H1⟩ := B1
  have E1 : zfreeU h b = ztally (zg4 h b) := zsettle_id w4 S4
  have S5 := zg4_Sd hb hM hw1 H1 hm1
  obtain ⟨-, -, -, -, -, Z⟩ := zg3_ok (b := b) hM hw1 H1 hm1
  obtain ⟨-, w5, d5⟩ := zg4_ok (b := b) hM hw1 H1 hm1
  have E2 : zfreeU (zfreeU h b) b = ztally (zg4 (zfreeU h b) b) := zsettle_id w5 S5
  rw [E2, (ztally_TE w5.1).2 2 5 (fun q => zTh_2 q.2), d5.2 2 5 (fun q => zTh_2 q.1)]
  refine Z fun r hr c => ?_
  have c0 := c.1
  rw [zg2_0 hw1 (by decide) (by decide), E1, zTE_0 (ztally_TE w4.1) (by decide), zQ3_0 d (by decide)] at c0
  have nc := L r hr c0
  have fr : zfg (zg2 h b) r := fun q => nc ⟨by rw [zg2_0 hw (by decide) (by decide), ← N r hr nc]; exact c0, Or.inl hb, q⟩
  obtain ⟨-, -, C1, -, C3⟩ := zreach_ok (b := b) (P := fun _ => True) (zK_tally hw1) (fun _ _ _ _ => trivial) (fun _ _ _ => trivial) (fun _ _ _ _ _ _ _ => trivial)
  have V : zVl (ztally h) (ztally (zfreeU h b)) := by
    have a := zVl_TE (ztally_TE hw.1)
    have a' : zVl (ztally h) h := zVl_TE (zTE_sy (ztally_TE hw.1))
    exact zVl_tr a' (zVl_tr V1 (zVl_TE (ztally_TE hw1.1)))
  obtain ⟨-, M1, -⟩ := zreach_ok (b := b) (P := fun r => zfg (zg2 (zfreeU h b) b) r) (zK_tally hw) (fun x hx r q => C1 x hx r ((zVl_ed V (zS_val24 x hx)).mpr q)) (fun r _ q => absurd q.1 hb) (fun t ht p f hf r q => C3 t ht p f hf r ((zVl_ed V (zS_tval t ht f hf)).mpr q))
  exact M1 r hr fr c.2.2
end ZCL
