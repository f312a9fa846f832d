/-! a step of a run -/
/-- how a run stands: under way, returned, left by a throw -/
def zEnd (h h' : zH) (d : Nat) : Prop := h'.1 1 9 = h.1 1 9 ∨ (d = 0 ∧ (h'.1 1 9 = 114 ∨ (h'.1 1 9 = 120 ∧ ∃ t, 1 ≤ t ∧ t ≤ 24 ∧ h'.1 1 15 = nI t)))
def zAd (h : zH) : Option zV → zH → Prop := fun v h' => v = none ∧ ∃ T s d, zRI h' T s d ∧ zSt h h' 14 ∧ zEnd h h' d
theorem zend_r {h g h2 : zH} {x : Int32} {d1 d2 : Nat} (og : g.1 1 9 = h.1 1 9 ∨ (d1 = 0 ∧ g.1 1 9 = 114 ∧ x = 0)) (hx : ¬ x = 0) (o2 : h2.1 1 9 = g.1 1 9 ∨ (d2 = 0 ∧ h2.1 1 9 = 120 ∧ ∃ t, 1 ≤ t ∧ t ≤ 24 ∧ h2.1 1 15 = nI t)) : zEnd h h2 d2 := by
  rcases og with q | q
  · rcases o2 with w | w
    · exact Or.inl (w.trans q)
    · exact Or.inr ⟨w.1, Or.inr w.2⟩
  · exact absurd q.2.2 hx
set_option maxHeartbeats 400000 in
set_option maxRecDepth 20000 in
theorem q_advance {κ : zK} (hκ : zKg κ) {T s d : Nat} (h : zH) (R : zRI h T s d) : zRq κ 38 [zr (some 1)] h (zAd h) 0 0 := by
  refine zRq_of hκ (by decide) (by decide +kernel) (Nat.le_of_ble_eq_true rfl) fun ω C hK he => ?_
  have k179 : ∀ (x : Int32) (g : zH), (∃ T s d, zRI g T s d ∧ zSt h g 2 ∧ (x = 9 → zGd g 749) ∧ (g.1 1 9 = h.1 1 9 ∨ (d = 0 ∧ g.1 1 9 = 114 ∧ x = 0))) → ZG ω 38 179 [(2, zi x), (0, zr (some 1))] [] g 0 0 := by
    rintro x g ⟨T1, s1, d1, Rg, tg, g9, og⟩
    refine z_iloadn C rfl rfl ?_
    refine z_if C rfl (fun hc1 => ?_) (fun hc1 => ?_)
    · skip
      skip
      exact z_returnq C rfl he ⟨Nat.le_refl _, Nat.le_refl _⟩ rfl (by first | exact ⟨rfl, T2, s2, d2, R2, zSt_tr tg t2, zend_r og hc1 o2⟩ | exact ⟨rfl, T1, s1, d1, Rg, zSt_le tg (by decide), og.elim Or.inl (fun q => Or.inr ⟨q.1, Or.inl q.2.1⟩)⟩)
    · skip
      skip
      refine z_aloadn C rfl rfl ?_
      refine z_iloadn C rfl rfl ?_
      refine z_callvq C rfl ⟨by decide, by decide⟩ (by first | assumption | rfl | decide) (q_raise (zKg_of C) _ Rg g9) rfl rfl (Nat.le_of_ble_eq_true rfl) ⟨Nat.le_of_ble_eq_true rfl, Nat.le_of_ble_eq_true rfl⟩ fun v2 g2 q2 => ?_
      obtain ⟨rfl, T2, s2, d2, R2, t2, o2⟩ := q2
      exact z_returnq C rfl he ⟨Nat.le_refl _, Nat.le_refl _⟩ rfl (by first | exact ⟨rfl, T2, s2, d2, R2, zSt_tr tg t2, zend_r og hc1 o2⟩ | exact ⟨rfl, T1, s1, d1, Rg, zSt_le tg (by decide), og.elim Or.inl (fun q => Or.inr ⟨q.1, Or.inl q.2.1⟩)⟩)
  refine z_aloadn C rfl rfl ?_
  refine z_geti C rfl zS_1 rfl ?_
  rw [(zRI_d R).1]
  refine z_iconst C rfl ?_
  refine z_icmp C rfl (fun hc1 => ?_) (fun hc1 => ?_)
  · skip
    skip
    refine z_aloadn C rfl rfl ?_
    refine z_iconst C rfl ?_
    have R1 := zRI_less R (Nat.zero_le d)
    refine z_puti C rfl zS_1 rfl ⟨_, rfl⟩ ?_
    exact z_returnq C rfl he ⟨Nat.le_refl _, Nat.le_refl _⟩ rfl ⟨rfl, _, _, _, R1, zSt_le zSt_I14 (by decide), Or.inl zGk_I14.2⟩
  · skip
    skip
    refine z_aloadn C rfl rfl ?_
    refine z_geti C rfl zS_1 rfl ?_
    rw [(zRI_d R).1]
    refine z_bipush C rfl ?_
    refine z_icmp C rfl (fun hc2 => ?_) (fun hc2 => ?_)
    · skip
      skip
      have hd := zRI_d R
      obtain ⟨c, rfl⟩ : ∃ c, d = c + 1 := by
        refine ⟨d - 1, ?_⟩
        by_cases q : 1 ≤ d
        · omega
        · exact absurd (nI_lt (a := d) (b := 1) (by omega) (by decide)) hc1
      have h12 : c < 12 := by omega
      obtain ⟨f, hf, ef⟩ := zcalF0 R.1 h12
      refine z_aloadn C rfl rfl ?_
      refine z_gets C rfl zS_1 rfl (zcalF R.1) ?_
      refine z_aloadn C rfl rfl ?_
      refine z_geti C rfl zS_1 rfl ?_
      rw [(zRI_d R).1]
      refine z_iconst C rfl ?_
      refine z_isub C rfl ?_
      rw [zsb1 c]
      refine z_aalds C rfl zS_331 (by decide) (by decide) (zin (n := 12) (by omega) (by decide)) (by rw [zclamp (n := 12) (by omega) (by decide)]; exact zcalA R.1 h12) ?_
      refine z_astoren C rfl ?_
      refine z_aloadn C rfl rfl ?_
      refine z_callv C rfl ⟨by decide, by decide⟩ (zS_call c h12) (c_behind (zKg_of C) h12 hf _ ef) rfl rfl (Nat.le_of_ble_eq_true rfl) ⟨(Nat.le_of_ble_eq_true rfl), (Nat.le_of_ble_eq_true rfl)⟩ ?_
      refine z_if C rfl (fun hc3 => ?_) (fun hc3 => ?_)
      · skip
        skip
        refine z_aloadn C rfl rfl ?_
        refine z_geti C rfl zS_1 rfl ?_
        refine z_sipush C rfl ?_
        refine z_icmp C rfl (fun hc4 => ?_) (fun hc4 => ?_)
        · skip
          skip
          have hbeh := zbq1 hc3
          unfold zbeh at hbeh
          rw [Bool.or_eq_false_iff, Bool.or_eq_false_iff, decide_eq_false_iff_not, decide_eq_false_iff_not, decide_eq_false_iff_not] at hbeh
          obtain ⟨j, hj, ej⟩ := zwi (x := h.1 (781 + 6 * c) 4) (n := 20) (by decide) (by unfold zwithin; rw [Bool.and_eq_true, decide_eq_true_iff, decide_eq_true_iff]; exact ⟨Int32.not_lt.mp hbeh.1, Int32.not_le.mp hbeh.2.2⟩)
          have R1 := zRI_I1 (j := 7) (x := h.1 1 7 + Int32.ofInt (Int.ofNat 1)) R (by decide) (by decide) (by decide)
          have e1 : (zupI h 1 7 (h.1 1 7 + Int32.ofInt (Int.ofNat 1))).1 (781 + 6 * c) 4 = nI j := (zupI_ne (fun q => by omega)).trans ej
          refine z_aloadn C rfl rfl ?_
          refine z_dup C rfl rfl ?_
          refine z_geti C rfl zS_1 rfl ?_
          refine z_iconst C rfl ?_
          refine z_iadd C rfl ?_
          refine z_puti C rfl zS_1 rfl ⟨_, rfl⟩ ?_
          refine z_aloadn C rfl rfl ?_
          refine z_aloadn C rfl rfl ?_
          refine z_geti C rfl (zS_call c h12) rfl ?_
          rw [e1]
          have R2 := zRI_C (j := 3) (x := nI j) R1 h12 (by decide)
          have e2 : (zupI (zupI h 1 7 (h.1 1 7 + Int32.ofInt (Int.ofNat 1))) (781 + 6 * c) 3 (nI j)).1 (781 + 6 * c) 4 = nI j := (zupI_ne (fun q => by cases q.2)).trans e1
          refine z_puti C rfl (zS_call c h12) rfl ⟨_, rfl⟩ ?_
          refine z_aloadn C rfl rfl ?_
          refine z_dup C rfl rfl ?_
          refine z_geti C rfl (zS_call c h12) rfl ?_
          rw [e2]
          refine z_iconst C rfl ?_
          refine z_iadd C rfl ?_
          have R3 := zRI_C (j := 4) (x := nI j + Int32.ofInt (Int.ofNat 1)) R2 h12 (by decide)
          have t3 : zSt h (zupI (zupI (zupI h 1 7 (h.1 1 7 + Int32.ofInt (Int.ofNat 1))) (781 + 6 * c) 3 (nI j)) (781 + 6 * c) 4 (nI j + Int32.ofInt (Int.ofNat 1))) 0 := zSt_tr (zSt_I1 (by decide)) (zSt_tr zSt_C zSt_C)
          have o3 : (zupI (zupI (zupI h 1 7 (h.1 1 7 + Int32.ofInt (Int.ofNat 1))) (781 + 6 * c) 3 (nI j)) (781 + 6 * c) 4 (nI j + Int32.ofInt (Int.ofNat 1))).1 1 9 = h.1 1 9 := (zGk_C h12).2.trans ((zGk_C h12).2.trans (zGk_I1 (by decide)).2)
          have e3 : (zupI (zupI (zupI h 1 7 (h.1 1 7 + Int32.ofInt (Int.ofNat 1))) (781 + 6 * c) 3 (nI j)) (781 + 6 * c) 4 (nI j + Int32.ofInt (Int.ofNat 1))).1 (781 + 6 * c) 3 = nI j := (zupI_ne (fun q => by cases q.2)).trans zupI_at
          refine z_puti C rfl (zS_call c h12) rfl ⟨_, rfl⟩ ?_
          revert R3 t3 o3 e3
          generalize zupI (zupI (zupI h 1 7 (h.1 1 7 + Int32.ofInt (Int.ofNat 1))) (781 + 6 * c) 3 (nI j)) (781 + 6 * c) 4 (nI j + Int32.ofInt (Int.ofNat 1)) = h3
          intro R3 t3 o3 e3
          obtain ⟨f3, hf3, ef3⟩ := zcalF0 R3.1 h12
          obtain ⟨l3, hl3, el3⟩ := (R3.2.2.1.1 f3 hf3).1
          obtain ⟨b3, hb3, eb3⟩ := zRI_b R3 (Nat.lt_succ_self c)
          refine z_aloadn C rfl rfl ?_
          refine z_gets C rfl (zS_call c h12) rfl ef3 ?_
          refine z_gets C rfl (zS_fun f3 hf3) rfl (R3.1.1.1.2.2.2.2.2.2.2.1 f3 hf3).1 ?_
          refine z_aloadn C rfl rfl ?_
          refine z_geti C rfl (zS_call c h12) rfl ?_
          rw [e3]
          refine z_cald C rfl (zS_fops f3 hf3) (zin hj (by decide)) ?_
          refine z_istoren C rfl ?_
          refine z_aloadn C rfl rfl ?_
          refine z_gets C rfl (zS_call c h12) rfl ef3 ?_
          refine z_gets C rfl (zS_fun f3 hf3) rfl (R3.1.1.1.2.2.2.2.2.2.2.1 f3 hf3).2 ?_
          refine z_aloadn C rfl rfl ?_
          refine z_geti C rfl (zS_call c h12) rfl ?_
          rw [e3]
          refine z_iald C rfl (zS_fnum f3 hf3) (zin hj (by decide)) ?_
          generalize h3.1 (752 + 3 * f3) (nI j).toNatClampNeg = o
          generalize h3.1 (753 + 3 * f3) (nI j).toNatClampNeg = n
          refine z_istore C rfl ?_
          refine z_aloadn C rfl rfl ?_
          refine z_aloadn C rfl rfl ?_
          refine z_iloadn C rfl rfl ?_
          refine z_iload C rfl rfl ?_
          refine z_callvq C rfl ⟨by decide, by decide⟩ (by first | assumption | rfl | decide) (q_fault (zKg_of C) h12 hf3 _ R3.1 R3.2.2.1 ef3) rfl rfl (Nat.le_of_ble_eq_true rfl) ⟨Nat.le_of_ble_eq_true rfl, Nat.le_of_ble_eq_true rfl⟩ fun v5 g5 q5 => ?_
          obtain ⟨hg, x3, rfl, hx9, hxx⟩ := q5
          rw [hg]
          refine z_istoren C rfl ?_
          refine z_iloadn C rfl rfl ?_
          refine z_if C rfl (fun hc6 => ?_) (fun hc6 => ?_)
          · skip
            skip
            first | exact z_ll [(2, zi _), (0, zr (some 1))] ⟨rfl, rfl, trivial⟩ (k179 x1 _ ⟨T1, s1, d1, R3, zSt_le (zSt_tr (zSt_vw zS_748 v) t1) (by decide), fun e => absurd e h91, ho1.elim (fun q => Or.inl (q.1.trans (zGk_vw zS_748 v).2)) Or.inr⟩) | exact z_ll [(2, zi _), (0, zr (some 1))] ⟨rfl, rfl, trivial⟩ (k179 x1 _ ⟨T1, s1, d1, R4, zSt_le (zSt_tr t3 t1) (by decide), h91, ho1.elim (fun q => Or.inl (q.trans o3)) Or.inr⟩) | exact z_ll [(2, zi _), (0, zr (some 1))] ⟨rfl, rfl, trivial⟩ (k179 x1 _ ⟨T1, s1, _, R4, zSt_le (zSt_tr t3 t1) (by decide), h91, Or.inl (g1.2.trans o3)⟩) | exact z_ll [(2, zi _), (0, zr (some 1))] ⟨rfl, rfl, trivial⟩ (k179 x3 _ ⟨T, s, _, R3, zSt_le t3 (by decide), fun e => absurd e hx9, Or.inl o3⟩)
          · skip
            skip
            have hx0 : x3 = 0 := Decidable.of_not_not hc6
            obtain ⟨hNT, hpo⟩ := hxx hx0
            rw [(zRI_s R3).1, eb3] at hpo
            have hP : ∀ k, k ≤ 2 → zpops h3 o.toInt n = nI k → k ≤ s := fun k hk ek => zpop_le (zRI_s R3).2 (by have := R3.2.2.2.2.1.1; omega) hk (ek ▸ hpo)
            refine z_iloadn C rfl rfl ?_
            refine z_calls C rfl ⟨by decide, by decide, by decide⟩ (c_isMv (zKg_of C) _) rfl rfl (Nat.le_of_ble_eq_true rfl) ⟨(Nat.le_of_ble_eq_true rfl), (Nat.le_of_ble_eq_true rfl)⟩ ?_
            refine z_if C rfl (fun hc7 => ?_) (fun hc7 => ?_)
            · skip
              skip
              refine z_aloadn C rfl rfl ?_
              refine z_aloadn C rfl rfl ?_
              refine z_iloadn C rfl rfl ?_
              refine z_iload C rfl rfl ?_
              refine z_callvq C rfl ⟨by decide, by decide⟩ (by first | assumption | rfl | decide) (q_doCode (zKg_of C) hf3 hl3 _ R3 ef3 el3 hNT hP) rfl rfl (Nat.le_of_ble_eq_true rfl) ⟨Nat.le_of_ble_eq_true rfl, Nat.le_of_ble_eq_true rfl⟩ fun v8 g8 q8 => ?_
              obtain ⟨T1, s1, x1, R4, t1, g1, rfl, h91⟩ := q8
              refine z_istoren C rfl ?_
              first | exact z_ll [(2, zi _), (0, zr (some 1))] ⟨rfl, rfl, trivial⟩ (k179 x1 _ ⟨T1, s1, d1, R3, zSt_le (zSt_tr (zSt_vw zS_748 v) t1) (by decide), fun e => absurd e h91, ho1.elim (fun q => Or.inl (q.1.trans (zGk_vw zS_748 v).2)) Or.inr⟩) | exact z_ll [(2, zi _), (0, zr (some 1))] ⟨rfl, rfl, trivial⟩ (k179 x1 _ ⟨T1, s1, d1, R4, zSt_le (zSt_tr t3 t1) (by decide), h91, ho1.elim (fun q => Or.inl (q.trans o3)) Or.inr⟩) | exact z_ll [(2, zi _), (0, zr (some 1))] ⟨rfl, rfl, trivial⟩ (k179 x1 _ ⟨T1, s1, _, R4, zSt_le (zSt_tr t3 t1) (by decide), h91, Or.inl (g1.2.trans o3)⟩) | exact z_ll [(2, zi _), (0, zr (some 1))] ⟨rfl, rfl, trivial⟩ (k179 x3 _ ⟨T, s, _, R3, zSt_le t3 (by decide), fun e => absurd e hx9, Or.inl o3⟩)
            · skip
              skip
              refine z_aloadn C rfl rfl ?_
              refine z_aloadn C rfl rfl ?_
              refine z_iloadn C rfl rfl ?_
              refine z_iload C rfl rfl ?_
              refine z_callvq C rfl ⟨by decide, by decide⟩ (by first | assumption | rfl | decide) (q_moveOn (zKg_of C) hf3 _ R3 ef3 hNT hP) rfl rfl (Nat.le_of_ble_eq_true rfl) ⟨Nat.le_of_ble_eq_true rfl, Nat.le_of_ble_eq_true rfl⟩ fun v9 g9 q9 => ?_
              obtain ⟨T1, s1, d1, x1, R4, t1, rfl, h91, ho1⟩ := q9
              refine z_goto C rfl ?_
              refine z_istoren C rfl ?_
              first | exact z_ll [(2, zi _), (0, zr (some 1))] ⟨rfl, rfl, trivial⟩ (k179 x1 _ ⟨T1, s1, d1, R3, zSt_le (zSt_tr (zSt_vw zS_748 v) t1) (by decide), fun e => absurd e h91, ho1.elim (fun q => Or.inl (q.1.trans (zGk_vw zS_748 v).2)) Or.inr⟩) | exact z_ll [(2, zi _), (0, zr (some 1))] ⟨rfl, rfl, trivial⟩ (k179 x1 _ ⟨T1, s1, d1, R4, zSt_le (zSt_tr t3 t1) (by decide), h91, ho1.elim (fun q => Or.inl (q.trans o3)) Or.inr⟩) | exact z_ll [(2, zi _), (0, zr (some 1))] ⟨rfl, rfl, trivial⟩ (k179 x1 _ ⟨T1, s1, _, R4, zSt_le (zSt_tr t3 t1) (by decide), h91, Or.inl (g1.2.trans o3)⟩) | exact z_ll [(2, zi _), (0, zr (some 1))] ⟨rfl, rfl, trivial⟩ (k179 x3 _ ⟨T, s, _, R3, zSt_le t3 (by decide), fun e => absurd e hx9, Or.inl o3⟩)
        · skip
          skip
          refine z_aloadn C rfl rfl ?_
          refine z_iconst C rfl ?_
          have R1 := zRI_less R (Nat.zero_le (c + 1))
          refine z_puti C rfl zS_1 rfl ⟨_, rfl⟩ ?_
          exact z_returnq C rfl he ⟨Nat.le_refl _, Nat.le_refl _⟩ rfl ⟨rfl, _, _, _, R1, zSt_le zSt_I14 (by decide), Or.inl zGk_I14.2⟩
      · skip
        skip
        refine z_aloadn C rfl rfl ?_
        refine z_gets C rfl zS_1 rfl (zcarF R.1) ?_
        refine z_aloadn C rfl rfl ?_
        refine z_gets C rfl (zS_call c h12) rfl ef ?_
        refine z_geti C rfl (zS_fun f hf) rfl ?_
        refine z_calls C rfl ⟨by decide, by decide, by decide⟩ (c_nothingOf (zKg_of C) _) rfl rfl (Nat.le_of_ble_eq_true rfl) ⟨(Nat.le_of_ble_eq_true rfl), (Nat.le_of_ble_eq_true rfl)⟩ ?_
        have v := zV_no (l := h.1 (751 + 3 * f) 0) R.1 R.2.1 zS_748
        have R1 := zRI_vw R zS_748 (by decide) v
        refine z_callv C rfl ⟨by decide, by decide⟩ zS_748 (c_becomeNothing (zKg_of C) zS_748 ⟨_, rfl, zCh_no.1, zCh_no.2⟩ _) rfl rfl (Nat.le_of_ble_eq_true rfl) ⟨(Nat.le_of_ble_eq_true rfl), (Nat.le_of_ble_eq_true rfl)⟩ ?_
        refine z_aloadn C rfl rfl ?_
        refine z_aloadn C rfl rfl ?_
        refine z_callvq C rfl ⟨by decide, by decide⟩ (by first | assumption | rfl | decide) (q_endC (zKg_of C) _ R1 v.2.2.2) rfl rfl (Nat.le_of_ble_eq_true rfl) ⟨Nat.le_of_ble_eq_true rfl, Nat.le_of_ble_eq_true rfl⟩ fun v10 g10 q10 => ?_
        obtain ⟨T1, s1, d1, x1, R3, t1, rfl, h91, ho1⟩ := q10
        refine z_istoren C rfl ?_
        refine z_goto C rfl ?_
        first | exact z_ll [(2, zi _), (0, zr (some 1))] ⟨rfl, rfl, trivial⟩ (k179 x1 _ ⟨T1, s1, d1, R3, zSt_le (zSt_tr (zSt_vw zS_748 v) t1) (by decide), fun e => absurd e h91, ho1.elim (fun q => Or.inl (q.1.trans (zGk_vw zS_748 v).2)) Or.inr⟩) | exact z_ll [(2, zi _), (0, zr (some 1))] ⟨rfl, rfl, trivial⟩ (k179 x1 _ ⟨T1, s1, d1, R4, zSt_le (zSt_tr t3 t1) (by decide), h91, ho1.elim (fun q => Or.inl (q.trans o3)) Or.inr⟩) | exact z_ll [(2, zi _), (0, zr (some 1))] ⟨rfl, rfl, trivial⟩ (k179 x1 _ ⟨T1, s1, _, R4, zSt_le (zSt_tr t3 t1) (by decide), h91, Or.inl (g1.2.trans o3)⟩) | exact z_ll [(2, zi _), (0, zr (some 1))] ⟨rfl, rfl, trivial⟩ (k179 x3 _ ⟨T, s, _, R3, zSt_le t3 (by decide), fun e => absurd e hx9, Or.inl o3⟩)
    · skip
      skip
      refine z_aloadn C rfl rfl ?_
      refine z_iconst C rfl ?_
      have R1 := zRI_less R (Nat.zero_le d)
      refine z_puti C rfl zS_1 rfl ⟨_, rfl⟩ ?_
      exact z_returnq C rfl he ⟨Nat.le_refl _, Nat.le_refl _⟩ rfl ⟨rfl, _, _, _, R1, zSt_le zSt_I14 (by decide), Or.inl zGk_I14.2⟩

