/-! a run: begun, gone through -/
/-- between calls -/
def zBI (h : zH) : Prop := zWk h ∧ zNn h ∧ zFn h ∧ zHI h
/-- what is written is the machine's alone -/
def zJn (h h' : zH) : Prop := zWk h' ∧ zNn h' ∧ zHq h h' ∧ zSt h h' 0 ∧ ∀ k, zS k = (0, 6, 6) → zGd h k → zGd h' k
section ZBG
variable {h h1 h2 h' : zH}
theorem zJn_tr (a : zJn h h1) (b : zJn h1 h2) : zJn h h2 := ⟨b.1, b.2.1, fun c hc => ⟨(b.2.2.1 c hc).1.trans (a.2.2.1 c hc).1, (b.2.2.1 c hc).2.1.trans (a.2.2.1 c hc).2.1, (b.2.2.1 c hc).2.2.trans (a.2.2.1 c hc).2.2⟩, zSt_tr a.2.2.2.1 b.2.2.2.1, fun k hk g => b.2.2.2.2 k hk (a.2.2.2.2 k hk g)⟩
theorem zJn_refl (hw : zWk h) (hn : zNn h) : zJn h h := ⟨hw, hn, fun _ _ => ⟨rfl, rfl, rfl⟩, zSt_refl, fun _ _ g => g⟩
theorem zJn_vw {k : Nat} (hk : zS k = (0, 6, 6)) (h3 : 330 ≤ k) (v : zVW h k h') : zJn h h' := ⟨v.2.1, v.2.2.1, zHq_off v.1 (by omega) (Or.inr h3), zSt_vw hk v, (zGk_vw hk v).1⟩
theorem zJn_I1 (hw : zWk h) (hn : zNn h) {j : Nat} {x : Int32} (h2 : j ≠ 2 ∧ j ≠ 13) (h9 : j = 9 → zCh x) : zJn h (zupI h 1 j x) := ⟨zK_I hw (zTok_m h9), hn, zHq_1, zSt_I1 h2, fun k hk g => zGd_I zt01 (fun q => zv1 k hk q.1) g⟩
theorem zJn_J1 (hw : zWk h) (hn : zNn h) {j : Nat} {x : Int64} (h8 : j ≠ 8) : zJn h (zupJ h 1 j x) := ⟨zK_J hw, hn, zHq_J, zSt_J1 h8, zGk_J1.1⟩
theorem zJn_332 (hw : zWk h) (hn : zNn h) {x : Int32} : zJn h (zupI h 332 2 x) := ⟨zK_332 hw, hn, zHq_332, zSt_332, zGk_332.1⟩
theorem zJn_C (hw : zWk h) (hn : zNn h) {c j : Nat} {x : Int32} (hc : c < 12) : zJn h (zupI h (781 + 6 * c) j x) := ⟨zK_I hw (zTok_c hc), hn, zHq_C, zSt_C, (zGk_C hc).1⟩
theorem zJn_cb (hw : zWk h) (hn : zNn h) {c f : Nat} {n : Int32} {id : Int64} (hc : c < 12) (hf : f < 10) : zJn h (zcb h c f n id) ∧ (zcb h c f n id).1 332 2 = h.1 332 2 ∧ (zcb h c f n id).1 1 9 = h.1 1 9 ∧ (∀ l, l < 4 → zGd (zcb h c f n id) (783 + 6 * c + l)) := by
  have ho : zoff h (zcb0 h c f n id) (781 + 6 * c) := zoff_tr (zoff_tr (zoff_tr (zoff_tr zoffR zoffI) zoffJ) zoffI) zoffI
  have hv : ¬ zS (781 + 6 * c) = (0, 6, 6) := fun q => by rw [zS_call c hc] at q; cases q
  have J0 : zJn h (zcb0 h c f n id) := ⟨zK_cb0 hw hc hf, hn, zHq_off ho (by omega) (Or.inr (by omega)), zSt_off ho (by omega) (by omega) (Or.inr (by omega)), (zGk_off ho (by omega) hv (ztc0 hc)).1⟩
  have e : zcb h c f n id = zbNothing (zbNothing (zbNothing (zbNothing (zcb0 h c f n id) (783 + 6 * c + 0) (znoOf (h.1 (751 + 3 * f) 0))) (783 + 6 * c + 1) (znoOf (h.1 (751 + 3 * f) 0))) (783 + 6 * c + 2) (znoOf (h.1 (751 + 3 * f) 0))) (783 + 6 * c + 3) (znoOf (h.1 (751 + 3 * f) 0)) := rfl
  have S := fun l hl => zS_cval c hc l hl
  have v0 := zV_no (l := h.1 (751 + 3 * f) 0) J0.1 J0.2.1 (S 0 (by decide))
  have v1 := zV_no (l := h.1 (751 + 3 * f) 0) v0.2.1 v0.2.2.1 (S 1 (by decide))
  have v2 := zV_no (l := h.1 (751 + 3 * f) 0) v1.2.1 v1.2.2.1 (S 2 (by decide))
  have v3 := zV_no (l := h.1 (751 + 3 * f) 0) v2.2.1 v2.2.2.1 (S 3 (by decide))
  have j0 := zJn_vw (S 0 (by decide)) (by omega) v0
  have j1 := zJn_vw (S 1 (by decide)) (by omega) v1
  have j2 := zJn_vw (S 2 (by decide)) (by omega) v2
  have j3 := zJn_vw (S 3 (by decide)) (by omega) v3
  rw [e]
  refine ⟨zJn_tr J0 (zJn_tr j0 (zJn_tr j1 (zJn_tr j2 j3))), ?_, ?_, fun l hl => ?_⟩
  · rw [(v3.1 332 (by omega)).1, (v2.1 332 (by omega)).1, (v1.1 332 (by omega)).1, (v0.1 332 (by omega)).1, (ho 332 (by omega)).1]
  · rw [(v3.1 1 (by omega)).1, (v2.1 1 (by omega)).1, (v1.1 1 (by omega)).1, (v0.1 1 (by omega)).1, (ho 1 (by omega)).1]
  · rcases (by omega : l = 0 ∨ l = 1 ∨ l = 2 ∨ l = 3) with rfl | rfl | rfl | rfl
    · exact j3.2.2.2.2 _ (S 0 (by decide)) (j2.2.2.2.2 _ (S 0 (by decide)) (j1.2.2.2.2 _ (S 0 (by decide)) v0.2.2.2))
    · exact j3.2.2.2.2 _ (S 1 (by decide)) (j2.2.2.2.2 _ (S 1 (by decide)) v1.2.2.2)
    · exact j3.2.2.2.2 _ (S 2 (by decide)) v2.2.2.2
    · exact v3.2.2.2
end ZBG
/-- a first call lies ready -/
def zRdy (h g : zH) : Prop := zJn h g ∧ g.1 332 2 = nI 0 ∧ g.1 (781 + 6 * 0) 5 = nI 0 ∧ (∀ l, l < 4 → zGd g (783 + 6 * 0 + l)) ∧ g.1 1 9 = 108
theorem zRdy_vw {h g g' : zH} {l : Nat} (hl : l < 4) (r : zRdy h g) (v : zVW g (783 + 6 * 0 + l) g') : zRdy h g' := by
  have hk := zS_cval 0 (by decide) l hl
  exact ⟨zJn_tr r.1 (zJn_vw hk (by omega) v), (zMk_vw hk v).1.trans r.2.1, ((zMk_vw hk v).2.2 0 (by decide)).trans r.2.2.1, fun m hm => (zGk_vw hk v).1 _ (zS_cval 0 (by decide) m hm) (r.2.2.2.1 m hm), (zGk_vw hk v).2.trans r.2.2.2.2⟩
set_option maxHeartbeats 400000 in
set_option maxRecDepth 20000 in
theorem q_begin {κ : zK} (hκ : zKg κ) {f : Nat} (hf : f < 9) {x y : Int32} (h : zH) (B : zBI h) : zRq κ 37 [zr (some 1), zi (nI f), zi x, zi y] h (fun v h' => v = none ∧ zRI h' 0 0 1 ∧ zSt h h' 0 ∧ h'.1 1 9 = 108) 0 0 := by
  refine zRq_of hκ (by decide) (by decide +kernel) (Nat.le_of_ble_eq_true rfl) fun ω C hK he => ?_
  have k117 : ∀ (g : zH), zRdy h g → ZG ω 37 117 [(0, zr (some 1))] [] g 0 0 := by
    intro g r
    refine z_aloadn C rfl rfl ?_
    refine z_iconst C rfl ?_
    refine z_puti C rfl zS_1 rfl ⟨_, rfl⟩ ?_
    exact z_returnq C rfl he ⟨Nat.le_refl _, Nat.le_refl _⟩ rfl ⟨rfl, ⟨zK_I r.1.1 (zTok_m (fun e => by cases e)), r.1.2.1, zFn_st (zSt_tr r.1.2.2.2.1 zSt_I14) B.2.2.1, zHI_q r.1.1 zHq_1 (zHI_q B.1 r.1.2.2.1 B.2.2.2), ⟨by decide, Nat.le_refl _, (zupI_ne (fun q => by omega)).trans r.2.1, fun j hj => absurd hj (Nat.not_lt_zero j)⟩, by decide, zupI_at, fun c hc => by obtain rfl : c = 0 := (by omega); exact ⟨⟨0, Nat.le_refl _, (zupI_ne (fun q => by omega)).trans r.2.2.1⟩, fun l hl => zGk_I14.1 _ (zS_cval 0 (by decide) l hl) (r.2.2.2.1 l hl)⟩⟩, zSt_tr r.1.2.2.2.1 zSt_I14, (zupI_ne (fun q => by omega)).trans r.2.2.2.2⟩
  have k92 : ∀ (g : zH), zRdy h g → ZG ω 37 92 [(5, zr (some (781 + 6 * 0))), (4, zr (some (751 + 3 * f))), (3, zi y), (0, zr (some 1))] [] g 0 0 := by
    intro g r
    refine z_aload C rfl rfl ?_
    refine z_geti C rfl (zS_fun f (by omega)) rfl ?_
    refine z_iconst C rfl ?_
    refine z_icmp C rfl (fun hc1 => ?_) (fun hc1 => ?_)
    · skip
      skip
      first | exact z_ll [(0, zr (some 1))] ⟨rfl, trivial⟩ (k117 _ (zRdy_vw (by decide) r v)) | exact z_ll [(0, zr (some 1))] ⟨rfl, trivial⟩ (k117 _ r)
    · skip
      skip
      refine z_aload C rfl rfl ?_
      refine z_gets C rfl (zS_call 0 (by decide)) rfl (zcalL r.1.1 (by decide)) ?_
      refine z_iconst C rfl ?_
      refine z_aalds C rfl (zS_carr 0 (by decide)) (by decide) (by decide) (zin (n := 4) (i := 1) (by decide) (by decide)) (by rw [show (Int32.ofInt (Int.ofNat 1)).toNatClampNeg = 1 from by decide]; exact zcalV r.1.1 (c := 0) (l := 1) (by decide) (by decide)) ?_
      refine z_aload C rfl rfl ?_
      refine z_geti C rfl (zS_fun f (by omega)) rfl ?_
      refine z_iloadn C rfl rfl ?_
      have v := zV_num (l := g.1 (751 + 3 * f) 0) (x := y) r.1.1 r.1.2.1 (zS_cval 0 (by decide) 1 (by decide))
      refine z_callv C rfl ⟨by decide, by decide⟩ (zS_cval 0 (by decide) 1 (by decide)) (c_becomeNumber (zKg_of C) (zS_cval 0 (by decide) 1 (by decide)) _) rfl rfl (Nat.le_of_ble_eq_true rfl) ⟨(Nat.le_of_ble_eq_true rfl), (Nat.le_of_ble_eq_true rfl)⟩ ?_
      first | exact z_ll [(0, zr (some 1))] ⟨rfl, trivial⟩ (k117 _ (zRdy_vw (by decide) r v)) | exact z_ll [(0, zr (some 1))] ⟨rfl, trivial⟩ (k117 _ r)
  have k68 : ∀ (g : zH), zRdy h g → ZG ω 37 68 [(5, zr (some (781 + 6 * 0))), (4, zr (some (751 + 3 * f))), (3, zi y), (2, zi x), (0, zr (some 1))] [] g 0 0 := by
    intro g r
    refine z_aload C rfl rfl ?_
    refine z_geti C rfl (zS_fun f (by omega)) rfl ?_
    refine z_if C rfl (fun hc1 => ?_) (fun hc1 => ?_)
    · skip
      skip
      first | exact z_ll [(5, zr (some (781 + 6 * 0))), (4, zr (some (751 + 3 * f))), (3, zi y), (0, zr (some 1))] ⟨rfl, rfl, rfl, rfl, trivial⟩ (k92 _ (zRdy_vw (by decide) r v)) | exact z_ll [(5, zr (some (781 + 6 * 0))), (4, zr (some (751 + 3 * f))), (3, zi y), (0, zr (some 1))] ⟨rfl, rfl, rfl, rfl, trivial⟩ (k92 _ r)
    · skip
      skip
      refine z_aload C rfl rfl ?_
      refine z_gets C rfl (zS_call 0 (by decide)) rfl (zcalL r.1.1 (by decide)) ?_
      refine z_iconst C rfl ?_
      refine z_aalds C rfl (zS_carr 0 (by decide)) (by decide) (by decide) (zin (n := 4) (i := 0) (by decide) (by decide)) (by rw [show (Int32.ofInt (Int.ofNat 0)).toNatClampNeg = 0 from by decide]; exact zcalV r.1.1 (c := 0) (l := 0) (by decide) (by decide)) ?_
      refine z_aload C rfl rfl ?_
      refine z_geti C rfl (zS_fun f (by omega)) rfl ?_
      refine z_iloadn C rfl rfl ?_
      have v := zV_num (l := g.1 (751 + 3 * f) 0) (x := x) r.1.1 r.1.2.1 (zS_cval 0 (by decide) 0 (by decide))
      refine z_callv C rfl ⟨by decide, by decide⟩ (zS_cval 0 (by decide) 0 (by decide)) (c_becomeNumber (zKg_of C) (zS_cval 0 (by decide) 0 (by decide)) _) rfl rfl (Nat.le_of_ble_eq_true rfl) ⟨(Nat.le_of_ble_eq_true rfl), (Nat.le_of_ble_eq_true rfl)⟩ ?_
      first | exact z_ll [(5, zr (some (781 + 6 * 0))), (4, zr (some (751 + 3 * f))), (3, zi y), (0, zr (some 1))] ⟨rfl, rfl, rfl, rfl, trivial⟩ (k92 _ (zRdy_vw (by decide) r v)) | exact z_ll [(5, zr (some (781 + 6 * 0))), (4, zr (some (751 + 3 * f))), (3, zi y), (0, zr (some 1))] ⟨rfl, rfl, rfl, rfl, trivial⟩ (k92 _ r)
  refine z_aloadn C rfl rfl ?_
  refine z_gets C rfl zS_1 rfl (zfunF B.1) ?_
  refine z_iloadn C rfl rfl ?_
  refine z_aalds C rfl zS_330 (by decide) (by decide) (zin (n := 9) hf (by decide)) (by rw [zclamp (n := 9) hf (by decide)]; exact zfunA B.1 hf) ?_
  refine z_astore C rfl ?_
  refine z_aloadn C rfl rfl ?_
  refine z_iconst C rfl ?_
  have j1 := zJn_I1 (j := 7) (x := (Int32.ofInt (Int.ofNat 0))) B.1 B.2.1 (by decide) (fun e => by cases e)
  refine z_puti C rfl zS_1 rfl ⟨_, rfl⟩ ?_
  refine z_aloadn C rfl rfl ?_
  refine z_iconst C rfl ?_
  have j2 := zJn_I1 (j := 15) (x := (Int32.ofInt (Int.ofNat 0))) j1.1 j1.2.1 (by decide) (fun e => by cases e)
  refine z_puti C rfl zS_1 rfl ⟨_, rfl⟩ ?_
  refine z_aloadn C rfl rfl ?_
  refine z_gets C rfl zS_1 rfl (zstkF j2.1) ?_
  refine z_iconst C rfl ?_
  have j3 := zJn_332 (x := nI 0) j2.1 j2.2.1
  refine z_puti C rfl zS_332 rfl ⟨_, rfl⟩ ?_
  refine z_aloadn C rfl rfl ?_
  refine z_bipush C rfl ?_
  have j4 := zJn_I1 (j := 9) (x := 108) j3.1 j3.2.1 (by decide) (fun _ => by unfold zCh; decide)
  refine z_puti C rfl zS_1 rfl ⟨_, rfl, by decide, by decide⟩ ?_
  refine z_aloadn C rfl rfl ?_
  refine z_gets C rfl zS_1 rfl (zcalF j4.1) ?_
  refine z_iconst C rfl ?_
  refine z_aalds C rfl zS_331 (by decide) (by decide) (zin (n := 12) (i := 0) (by decide) (by decide)) (by rw [show (Int32.ofInt (Int.ofNat 0)).toNatClampNeg = 0 from by decide]; exact zcalA j4.1 (c := 0) (by decide)) ?_
  refine z_astore C rfl ?_
  refine z_aloadn C rfl rfl ?_
  refine z_dup C rfl rfl ?_
  refine z_getj C rfl zS_1 rfl ?_
  refine z_lconst C rfl ?_
  refine z_ladd C rfl ?_
  refine z_putj C rfl zS_1 rfl ⟨_, rfl⟩ ?_
  refine z_aload C rfl rfl ?_
  refine z_aload C rfl rfl ?_
  refine z_iloadn C rfl rfl ?_
  refine z_aloadn C rfl rfl ?_
  refine z_getj C rfl zS_1 rfl ?_
  refine z_callv C rfl ⟨by decide, by decide⟩ (zS_call 0 (by decide)) (c_cb (zKg_of C) (c := 0) (f := f) (by decide) (by omega) _ (zK_J j4.1)) rfl rfl (Nat.le_of_ble_eq_true rfl) ⟨(Nat.le_of_ble_eq_true rfl), (Nat.le_of_ble_eq_true rfl)⟩ ?_
  refine z_aload C rfl rfl ?_
  refine z_iconst C rfl ?_
  refine z_puti C rfl (zS_call 0 (by decide)) rfl ⟨_, rfl⟩ ?_
  refine z_ll [(5, zr (some (781 + 6 * 0))), (4, zr (some (751 + 3 * f))), (3, zi y), (2, zi x), (0, zr (some 1))] ⟨rfl, rfl, rfl, rfl, rfl, trivial⟩ (k68 _ ?_)
  have j5 := zJn_J1 (j := 5) (x := (zupI (zupI (zupI (zupI h 1 7 (Int32.ofInt (Int.ofNat 0))) 1 15 (Int32.ofInt (Int.ofNat 0))) 332 2 (nI 0)) 1 9 108).2.1 1 5 + 1) j4.1 j4.2.1 (by decide)
  obtain ⟨j6, t6, o6, g6⟩ := zJn_cb (c := 0) (f := f) (n := nI f) (id := (zupJ (zupI (zupI (zupI (zupI h 1 7 (Int32.ofInt (Int.ofNat 0))) 1 15 (Int32.ofInt (Int.ofNat 0))) 332 2 (nI 0)) 1 9 108) 1 5 ((zupI (zupI (zupI (zupI h 1 7 (Int32.ofInt (Int.ofNat 0))) 1 15 (Int32.ofInt (Int.ofNat 0))) 332 2 (nI 0)) 1 9 108).2.1 1 5 + 1)).2.1 1 5) j5.1 j5.2.1 (by decide) (show f < 10 by omega)
  have j7 := zJn_C (c := 0) (j := 5) (x := nI 0) j6.1 j6.2.1 (by decide)
  refine ⟨zJn_tr (zJn_tr (zJn_tr j1 (zJn_tr j2 (zJn_tr j3 (zJn_tr j4 j5)))) j6) j7, ?_, zupI_at, fun l hl => j7.2.2.2.2 _ (zS_cval 0 (by decide) l hl) (g6 l hl), ?_⟩
  · refine (zupI_ne (fun q => by omega)).trans (t6.trans ?_)
    exact (zupI_ne (h := zupI (zupI (zupI h 1 7 (Int32.ofInt (Int.ofNat 0))) 1 15 (Int32.ofInt (Int.ofNat 0))) 332 2 (nI 0)) (k := 1) (j := 9) (k' := 332) (j' := 2) (x := 108) (fun q => by omega)).trans zupI_at
  · refine (zupI_ne (fun q => by omega)).trans (o6.trans ?_)
    exact zupI_at (h := zupI (zupI (zupI h 1 7 (Int32.ofInt (Int.ofNat 0))) 1 15 (Int32.ofInt (Int.ofNat 0))) 332 2 (nI 0)) (k := 1) (j := 9) (x := 108)
  

def zRun (g : zH) (d : Nat) : Prop := g.1 1 9 = 108 ∨ (d = 0 ∧ (g.1 1 9 = 114 ∨ (g.1 1 9 = 120 ∧ ∃ t, 1 ≤ t ∧ t ≤ 24 ∧ g.1 1 15 = nI t)))
def zRIn (h g : zH) (i : Nat) : Prop := i ≤ 1000 ∧ ∃ T s d, zRI g T s d ∧ zSt h g (14 * i) ∧ zRun g d
theorem zRIn_1 {h g g' : zH} {i T s d : Nat} (hi : i + 1 ≤ 1000) (R : zRI g T s d) (t : zSt h g (14 * i)) (r : zRun g d) (hd : 1 ≤ d) (a : ∃ T s d, zRI g' T s d ∧ zSt g g' 14 ∧ zEnd g g' d) : zRIn h g' (i + 1) := by
  obtain ⟨T', s', d', R', t', e⟩ := a
  refine ⟨hi, T', s', d', R', zSt_le (zSt_tr t t') (by omega), ?_⟩
  have r8 : g.1 1 9 = 108 := by
    rcases r with q | q
    · exact q
    · omega
  rcases e with q | q
  · exact Or.inl (q.trans r8)
  · exact Or.inr q
set_option maxHeartbeats 400000 in
set_option maxRecDepth 20000 in
theorem l_run {ω : zO} (C : zX ω 93) {h : zH} : ∀ (m i : Nat) (g : zH), i + m = 1000 → zRIn h g i → (∀ (i : Nat) (g : zH), zRIn h g i → ZG ω 93 49 [(0, zr (some 0))] [] g 0 0) → ZG ω 93 18 [(4, zi (nI i)), (0, zr (some 0))] [] g 0 0 := by
  intro m
  induction m with
  | zero =>
    intro i g hi hI kk
    obtain rfl : i = 1000 := by omega
    refine z_iload C rfl rfl ?_
    refine z_sipush C rfl ?_
    refine z_icmp C rfl (fun hc1 => ?_) (fun hc1 => ?_)
    · skip
      skip
      exact z_ll [(0, zr (some 0))] ⟨rfl, trivial⟩ (kk 1000 g hI)
    · skip
      skip
      exact absurd (Int32.le_refl _) hc1
  | succ m ih =>
    intro i g hi hI kk
    refine z_iload C rfl rfl ?_
    refine z_sipush C rfl ?_
    refine z_icmp C rfl (fun hc1 => ?_) (fun hc1 => ?_)
    · skip
      skip
      first | exact absurd hc1 (nI_ge (a := i) (b := 1000) (by omega) (by decide)) | exact z_ll [(0, zr (some 0))] ⟨rfl, trivial⟩ (kk i _ ⟨i9, T, s, d, R, t, r⟩)
    · skip
      skip
      obtain ⟨i9, T, s, d, R, t, r⟩ := hI
      refine z_aloadn C rfl rfl ?_
      refine z_gets C rfl zS_0 rfl R.1.1.1.1.1 ?_
      refine z_geti C rfl zS_1 rfl ?_
      rw [(zRI_d R).1]
      refine z_if C rfl (fun hc2 => ?_) (fun hc2 => ?_)
      · skip
        skip
        first | exact absurd hc1 (nI_ge (a := i) (b := 1000) (by omega) (by decide)) | exact z_ll [(0, zr (some 0))] ⟨rfl, trivial⟩ (kk i _ ⟨i9, T, s, d, R, t, r⟩)
      · skip
        skip
        have hd1 : 1 ≤ d := by
          by_cases q : 1 ≤ d
          · exact q
          · exact absurd (by obtain rfl : d = 0 := (by omega); exact (by decide : nI 0 ≤ 0)) hc2
        refine z_aloadn C rfl rfl ?_
        refine z_gets C rfl zS_0 rfl R.1.1.1.1.1 ?_
        refine z_callvq C rfl ⟨by decide, by decide⟩ (by first | assumption | rfl | decide) (q_advance (zKg_of C) _ R) rfl rfl (Nat.le_of_ble_eq_true rfl) ⟨Nat.le_of_ble_eq_true rfl, Nat.le_of_ble_eq_true rfl⟩ fun v3 g3 q3 => ?_
        obtain ⟨rfl, a⟩ := q3
        refine z_iinc C rfl rfl ?_
        refine z_goto C rfl ?_
        exact z_ll [(4, zi (nI (i + 1))), (0, zr (some 0))] ⟨znx i, rfl, trivial⟩ (ih (i + 1) _ (by omega) (zRIn_1 (by omega) R t r hd1 a) kk)
set_option maxHeartbeats 400000 in
set_option maxRecDepth 20000 in
theorem q_run {κ : zK} (hκ : zKg κ) {f : Nat} (hf : f < 9) {x y : Int32} (h : zH) (B : zBI h) (hx : zwithin (nI f) (h.1 1 2) = true) : zRq κ 93 [zr (some 0), zi (nI f), zi x, zi y] h (fun v h' => v = some (zi (h'.1 1 9)) ∧ ∃ g i, zRIn h g i ∧ h' = zsettle g) 0 0 := by
  refine zRq_of hκ (by decide) (by decide +kernel) (Nat.le_of_ble_eq_true rfl) fun ω C hK he => ?_
  have k49 : ∀ (i : Nat) (g : zH), zRIn h g i → ZG ω 93 49 [(0, zr (some 0))] [] g 0 0 := by
    intro i g hI
    refine z_aloadn C rfl rfl ?_
    obtain ⟨i9, T, s, d, R, t, r⟩ := hI
    have hw1 := zK_settle R.1
    refine z_gets C rfl zS_0 rfl R.1.1.1.1.2.1 ?_
    refine z_callv C rfl ⟨by decide, by decide⟩ zS_2 (c_settle (zKg_of C) _ R.1) rfl rfl (Nat.le_of_ble_eq_true rfl) ⟨(Nat.le_of_ble_eq_true rfl), (Nat.le_of_ble_eq_true rfl)⟩ ?_
    refine z_pop C rfl rfl ?_
    refine z_aloadn C rfl rfl ?_
    refine z_gets C rfl zS_0 rfl hw1.1.1.1.1 ?_
    refine z_geti C rfl zS_1 rfl ?_
    exact z_zreturnq C rfl he ⟨Nat.le_refl _, Nat.le_refl _⟩ rfl (znCh hw1.2.2.2.2) ⟨rfl, g, i, ⟨i9, T, s, d, R, t, r⟩, rfl⟩
  refine z_aloadn C rfl rfl ?_
  refine z_iloadn C rfl rfl ?_
  refine z_callv C rfl ⟨by decide, by decide⟩ zS_0 (c_reqF (zKg_of C) _ B.1 hx) rfl rfl (Nat.le_of_ble_eq_true rfl) ⟨(Nat.le_of_ble_eq_true rfl), (Nat.le_of_ble_eq_true rfl)⟩ ?_
  refine z_aloadn C rfl rfl ?_
  refine z_gets C rfl zS_0 rfl B.1.1.1.1.1 ?_
  refine z_iloadn C rfl rfl ?_
  refine z_iloadn C rfl rfl ?_
  refine z_iloadn C rfl rfl ?_
  refine z_callvq C rfl ⟨by decide, by decide⟩ (by first | assumption | rfl | decide) (q_begin (zKg_of C) hf _ B) rfl rfl (Nat.le_of_ble_eq_true rfl) ⟨Nat.le_of_ble_eq_true rfl, Nat.le_of_ble_eq_true rfl⟩ fun v1 g1 q1 => ?_
  obtain ⟨rfl, R, t, o8⟩ := q1
  refine z_iconst C rfl ?_
  refine z_istore C rfl ?_
  exact z_ll [(4, zi (nI 0)), (0, zr (some 0))] ⟨rfl, rfl, trivial⟩ (l_run C 1000 0 _ rfl ⟨Nat.zero_le _, 0, 0, 1, R, t, Or.inl o8⟩ k49)
set_option maxHeartbeats 400000 in
set_option maxRecDepth 20000 in
theorem t_run {κ : zK} (hκ : zKg κ) {x y z : Int32} (h : zH) (hw : zWk h) (hx : zwithin x (h.1 1 2) = false) : zThr κ 93 [zr (some 0), zi x, zi y, zi z] h 4 h 1 6 := by
  refine zThr_of hκ (by decide) (by decide +kernel) (Nat.le_of_ble_eq_true rfl) fun ω C hK he => ?_
  refine z_aloadn C rfl rfl ?_
  refine z_iloadn C rfl rfl ?_
  exact z_callvX C rfl ⟨by decide, by decide⟩ zS_0 (by decide +kernel) he (t_reqF (zKg_of C) _ hw hx) rfl rfl (Nat.le_of_ble_eq_true rfl) ⟨(Nat.le_of_ble_eq_true rfl), (Nat.le_of_ble_eq_true rfl)⟩

