/-! the law's events -/
theorem zcmp_s {x : Int64} : lg_cmp x x = 0 := by
  unfold lg_cmp
  simp
set_option maxHeartbeats 400000 in
set_option maxRecDepth 20000 in
theorem ev_set {ω : zO} (C0 : zX ω 131) {h : zH} {a b e n M X f L : Nat} {hh gg sort : Int32} {was : Int64} {d0 : Drawn} (hd0 : (oS ω).drawn.sameBut d0 lw_cs) (hM : M ≤ 900000) (I : zLi h M n X) (hL : L ≤ 3) (hf : f ≤ n) (hwas : was = zst h M) (hca : a + 40 + 4 * M ≤ (oR ω).cells ∧ b + 6 * (40 + 4 * M) ≤ (oR ω).slots) (kk : ∀ (got : Int32) (g : zH) (n' M' a1 b1 : Nat) (d1 : Drawn), (oS ω).drawn.sameBut d1 lw_cs → a1 ≤ a + (30 + 2 * M) → b1 ≤ b + 6 * (30 + 2 * M) → M ≤ M' → M' ≤ M + 60 → zLi g M' n' (X + 14000) → (got < 0 → zst g M' = was) → ZG (zod ω d1) 131 885 [(12, zi got), (10, zj was), (4, zi (nI e)), (3, zr (some 854)), (2, zi (nI n')), (1, zr (some 0)), (0, zs)] [] g a1 b1) : ZG (zod ω d0) 131 553 [(12, zi (Int32.ofInt (Int.ofNat 0))), (10, zj was), (9, zi sort), (8, zi (nI f)), (7, zi (nI L)), (6, zi hh), (5, zi gg), (4, zi (nI e)), (3, zr (some 854)), (2, zi (nI n)), (1, zr (some 0)), (0, zs)] [] h a b := by
  have C := zX_od C0 d0
  obtain ⟨hca1, hca2⟩ := hca
  refine z_aloadn C rfl rfl ?_
  refine z_bipush C rfl ?_
  refine z_iload C rfl rfl ?_
  refine z_iload C rfl rfl ?_
  refine z_iconst C rfl ?_
  refine z_ishr C rfl ?_
  refine z_bipush C rfl ?_
  refine z_callsq C rfl ⟨by decide, by decide, by decide⟩ (q_low (zKg_of C) (n := 9) (by decide) (by decide) _) rfl rfl (Nat.le_of_ble_eq_true rfl) ⟨(show a + 0 ≤ (oR ω).cells by omega), (show b + 0 ≤ (oR ω).slots by omega)⟩ fun v1 g1 q1 => ?_
  obtain ⟨hg1, j1, hj1, hv1⟩ := q1
  rw [hg1, hv1]
  refine z_iload C rfl rfl ?_
  refine z_bipush C rfl ?_
  refine z_ishr C rfl ?_
  refine z_bipush C rfl ?_
  refine z_callsq C rfl ⟨by decide, by decide, by decide⟩ (q_low (zKg_of C) (n := 50) (by decide) (by decide) _) rfl rfl (Nat.le_of_ble_eq_true rfl) ⟨(show a + 0 ≤ (oR ω).cells by omega), (show b + 0 ≤ (oR ω).slots by omega)⟩ fun v2 g2 q2 => ?_
  obtain ⟨hg2, j2, hj2, hv2⟩ := q2
  rw [hg2, hv2]
  refine z_bipush C rfl ?_
  refine z_isub C rfl ?_
  refine z_iconst C rfl ?_
  refine r_set C rfl (by decide) hM I (Nat.le_of_ble_eq_true rfl) ⟨(show a + 1 ≤ (oR ω).cells by omega), (show b + 6 ≤ (oR ω).slots by omega)⟩ (by omega) (by omega) fun got g1 M1 a1 b1 ha1 hb1 R => ?_
  refine z_istore C rfl ?_
  refine z_goto C rfl ?_
  exact z_ll [(12, zi got), (10, zj was), (4, zi (nI e)), (3, zr (some 854)), (2, zi (nI n)), (1, zr (some 0)), (0, zs)] ⟨rfl, rfl, rfl, rfl, rfl, rfl, rfl, trivial⟩ (kk got g1 n M1 a1 b1 d0 hd0 (by omega) (by omega) R.1 R.2.1 R.2.2.1 (fun q => by obtain ⟨w1, w2⟩ := R.2.2.2 q; rw [w1, w2, hwas]))
set_option maxHeartbeats 400000 in
set_option maxRecDepth 20000 in
theorem ev_make {ω : zO} (C0 : zX ω 131) {h : zH} {a b e n M X f L : Nat} {hh gg sort : Int32} {was : Int64} {d0 : Drawn} (hd0 : (oS ω).drawn.sameBut d0 lw_cs) (hM : M ≤ 900000) (I : zLi h M n X) (hL : L ≤ 3) (hf : f ≤ n) (hwas : was = zst h M) (hca : a + 40 + 4 * M ≤ (oR ω).cells ∧ b + 6 * (40 + 4 * M) ≤ (oR ω).slots) (kk : ∀ (got : Int32) (g : zH) (n' M' a1 b1 : Nat) (d1 : Drawn), (oS ω).drawn.sameBut d1 lw_cs → a1 ≤ a + (30 + 2 * M) → b1 ≤ b + 6 * (30 + 2 * M) → M ≤ M' → M' ≤ M + 60 → zLi g M' n' (X + 14000) → (got < 0 → zst g M' = was) → ZG (zod ω d1) 131 885 [(12, zi got), (10, zj was), (4, zi (nI e)), (3, zr (some 854)), (2, zi (nI n')), (1, zr (some 0)), (0, zs)] [] g a1 b1) : ZG (zod ω d0) 131 596 [(12, zi (Int32.ofInt (Int.ofNat 0))), (10, zj was), (9, zi sort), (8, zi (nI f)), (7, zi (nI L)), (6, zi hh), (5, zi gg), (4, zi (nI e)), (3, zr (some 854)), (2, zi (nI n)), (1, zr (some 0)), (0, zs)] [] h a b := by
  have C := zX_od C0 d0
  obtain ⟨hca1, hca2⟩ := hca
  refine z_aloadn C rfl rfl ?_
  refine z_bipush C rfl ?_
  refine z_iload C rfl rfl ?_
  refine z_iload C rfl rfl ?_
  refine z_iconst C rfl ?_
  refine z_ishr C rfl ?_
  refine z_bipush C rfl ?_
  refine z_callsq C rfl ⟨by decide, by decide, by decide⟩ (q_low (zKg_of C) (n := 9) (by decide) (by decide) _) rfl rfl (Nat.le_of_ble_eq_true rfl) ⟨(show a + 0 ≤ (oR ω).cells by omega), (show b + 0 ≤ (oR ω).slots by omega)⟩ fun v1 g1 q1 => ?_
  obtain ⟨hg1, j1, hj1, hv1⟩ := q1
  rw [hg1, hv1]
  refine z_iconst C rfl ?_
  refine z_iconst C rfl ?_
  refine r_make C rfl (by decide) hM I (Nat.le_of_ble_eq_true rfl) ⟨(show a + 1 ≤ (oR ω).cells by omega), (show b + 6 ≤ (oR ω).slots by omega)⟩ (by omega) (by omega) fun got g1 M1 a1 b1 ha1 hb1 R hgot => ?_
  refine z_istore C rfl ?_
  refine z_iload C rfl rfl ?_
  refine z_if C rfl (fun hc1 => ?_) (fun hc1 => ?_)
  · skip
    skip
    exact z_ll [(12, zi got), (10, zj was), (4, zi (nI e)), (3, zr (some 854)), (2, zi (nI n)), (1, zr (some 0)), (0, zs)] ⟨rfl, rfl, rfl, rfl, rfl, rfl, rfl, trivial⟩ (kk got g1 n M1 a1 b1 d0 hd0 (by omega) (by omega) R.1 R.2.1 R.2.2.1 (fun q => by obtain ⟨w1, w2⟩ := R.2.2.2 q; rw [w1, w2, hwas]))
  · skip
    skip
    refine z_iload C rfl rfl ?_
    refine z_aloadn C rfl rfl ?_
    refine z_callv C rfl ⟨by decide, by decide⟩ zS_0 (c_made (zKg_of C) g1 R.2.2.1.1.1.1) rfl rfl (Nat.le_of_ble_eq_true rfl) ⟨(show a1 + 0 ≤ (oR ω).cells by omega), (show b1 + 0 ≤ (oR ω).slots by omega)⟩ ?_
    refine z_iconst C rfl ?_
    refine z_isub C rfl ?_
    refine z_icmp C rfl (fun hc2 => ?_) (fun hc2 => ?_)
    · skip
      skip
      exact z_ll [(12, zi got), (10, zj was), (4, zi (nI e)), (3, zr (some 854)), (2, zi (nI n)), (1, zr (some 0)), (0, zs)] ⟨rfl, rfl, rfl, rfl, rfl, rfl, rfl, trivial⟩ (kk got g1 n M1 a1 b1 d0 hd0 (by omega) (by omega) R.1 R.2.1 R.2.2.1 (fun q => by obtain ⟨w1, w2⟩ := R.2.2.2 q; rw [w1, w2, hwas]))
    · skip
      skip
      exact absurd (hgot (Int32.not_lt.mp hc1)) hc2
set_option maxHeartbeats 400000 in
set_option maxRecDepth 20000 in
theorem ev_pass {ω : zO} (C0 : zX ω 131) {h : zH} {a b e n M X f L : Nat} {hh gg sort : Int32} {was : Int64} {d0 : Drawn} (hd0 : (oS ω).drawn.sameBut d0 lw_cs) (hM : M ≤ 900000) (I : zLi h M n X) (hL : L ≤ 3) (hf : f ≤ n) (hwas : was = zst h M) (hca : a + 40 + 4 * M ≤ (oR ω).cells ∧ b + 6 * (40 + 4 * M) ≤ (oR ω).slots) (kk : ∀ (got : Int32) (g : zH) (n' M' a1 b1 : Nat) (d1 : Drawn), (oS ω).drawn.sameBut d1 lw_cs → a1 ≤ a + (30 + 2 * M) → b1 ≤ b + 6 * (30 + 2 * M) → M ≤ M' → M' ≤ M + 60 → zLi g M' n' (X + 14000) → (got < 0 → zst g M' = was) → ZG (zod ω d1) 131 885 [(12, zi got), (10, zj was), (4, zi (nI e)), (3, zr (some 854)), (2, zi (nI n')), (1, zr (some 0)), (0, zs)] [] g a1 b1) : ZG (zod ω d0) 131 642 [(12, zi (Int32.ofInt (Int.ofNat 0))), (10, zj was), (9, zi sort), (8, zi (nI f)), (7, zi (nI L)), (6, zi hh), (5, zi gg), (4, zi (nI e)), (3, zr (some 854)), (2, zi (nI n)), (1, zr (some 0)), (0, zs)] [] h a b := by
  have C := zX_od C0 d0
  obtain ⟨hca1, hca2⟩ := hca
  refine z_aloadn C rfl rfl ?_
  refine z_bipush C rfl ?_
  refine z_iload C rfl rfl ?_
  refine z_iload C rfl rfl ?_
  refine z_iconst C rfl ?_
  refine z_ishr C rfl ?_
  refine z_bipush C rfl ?_
  refine z_callsq C rfl ⟨by decide, by decide, by decide⟩ (q_low (zKg_of C) (n := 8) (by decide) (by decide) _) rfl rfl (Nat.le_of_ble_eq_true rfl) ⟨(show a + 0 ≤ (oR ω).cells by omega), (show b + 0 ≤ (oR ω).slots by omega)⟩ fun v1 g1 q1 => ?_
  obtain ⟨hg1, j1, hj1, hv1⟩ := q1
  rw [hg1, hv1]
  refine z_iload C rfl rfl ?_
  refine z_bipush C rfl ?_
  refine z_ishr C rfl ?_
  refine z_iconst C rfl ?_
  refine z_callsq C rfl ⟨by decide, by decide, by decide⟩ (q_low (zKg_of C) (n := 3) (by decide) (by decide) _) rfl rfl (Nat.le_of_ble_eq_true rfl) ⟨(show a + 0 ≤ (oR ω).cells by omega), (show b + 0 ≤ (oR ω).slots by omega)⟩ fun v2 g2 q2 => ?_
  obtain ⟨hg2, j2, hj2, hv2⟩ := q2
  rw [hg2, hv2]
  refine z_iload C rfl rfl ?_
  refine z_bipush C rfl ?_
  refine z_ishr C rfl ?_
  refine z_bipush C rfl ?_
  refine z_callsq C rfl ⟨by decide, by decide, by decide⟩ (q_low (zKg_of C) (n := 9) (by decide) (by decide) _) rfl rfl (Nat.le_of_ble_eq_true rfl) ⟨(show a + 0 ≤ (oR ω).cells by omega), (show b + 0 ≤ (oR ω).slots by omega)⟩ fun v3 g3 q3 => ?_
  obtain ⟨hg3, j3, hj3, hv3⟩ := q3
  rw [hg3, hv3]
  refine r_pass C rfl (by decide) hM I (Nat.le_of_ble_eq_true rfl) ⟨(show a + 1 ≤ (oR ω).cells by omega), (show b + 6 ≤ (oR ω).slots by omega)⟩ (by omega) (by omega) hj2 (by omega) fun got g1 M1 a1 b1 ha1 hb1 R hgot => ?_
  refine z_istore C rfl ?_
  refine z_iload C rfl rfl ?_
  refine z_if C rfl (fun hc1 => ?_) (fun hc1 => ?_)
  · skip
    skip
    first | exact z_ll [(12, zi got), (10, zj was), (4, zi (nI e)), (3, zr (some 854)), (2, zi (nI n)), (1, zr (some 0)), (0, zs)] ⟨rfl, rfl, rfl, rfl, rfl, rfl, rfl, trivial⟩ (kk got g1 n M1 a1 b1 d0 hd0 (by omega) (by omega) R.1 R.2.1 R.2.2.1 (fun q => by obtain ⟨w1, w2⟩ := R.2.2.2 q; rw [w1, w2, hwas])) | exact z_ll [(12, zi got), (10, zj was), (4, zi (nI e)), (3, zr (some 854)), (2, zi (nI n)), (1, zr (some 0)), (0, zs)] ⟨rfl, rfl, rfl, rfl, rfl, rfl, rfl, trivial⟩ (kk got g5 n M1 _ _ d5 hD5 (by omega) (by omega) R.1 R.2.1 (zLi_TE e5 R.2.2.1) (fun q => by rw [zTE_st e5 R.2.2.1.1.1.1.1, hs1, hwas]))
  · skip
    skip
    refine z_aloadn C rfl rfl ?_
    obtain ⟨hM1, hs1⟩ := hgot (Int32.not_le.mp hc1)
    subst hM1
    refine z_callsD C0 hd0 rfl ⟨by decide, by decide, by decide⟩ (d_state (zKg_of C) (M := M1) (by omega) g1 R.2.2.1.1.1.1 R.2.2.1.1.2.2) rfl rfl (Nat.le_of_ble_eq_true rfl) ⟨(show a1 + (24 + 2 * M1) ≤ (oR ω).cells by omega), (show b1 + 6 * (24 + 2 * M1) ≤ (oR ω).slots by omega)⟩ fun v5 g5 d5 q5 hD5 => ?_
    obtain ⟨hv5, e5⟩ := q5
    rw [hv5]
    have C := zX_od C0 d5
    refine z_lload C rfl rfl ?_
    refine z_lcmp C rfl ?_
    rw [hs1, ← hwas, zcmp_s]
    refine z_if C rfl (fun hc2 => ?_) (fun hc2 => ?_)
    · skip
      skip
      first | exact z_ll [(12, zi got), (10, zj was), (4, zi (nI e)), (3, zr (some 854)), (2, zi (nI n)), (1, zr (some 0)), (0, zs)] ⟨rfl, rfl, rfl, rfl, rfl, rfl, rfl, trivial⟩ (kk got g1 n M1 a1 b1 d0 hd0 (by omega) (by omega) R.1 R.2.1 R.2.2.1 (fun q => by obtain ⟨w1, w2⟩ := R.2.2.2 q; rw [w1, w2, hwas])) | exact z_ll [(12, zi got), (10, zj was), (4, zi (nI e)), (3, zr (some 854)), (2, zi (nI n)), (1, zr (some 0)), (0, zs)] ⟨rfl, rfl, rfl, rfl, rfl, rfl, rfl, trivial⟩ (kk got g5 n M1 _ _ d5 hD5 (by omega) (by omega) R.1 R.2.1 (zLi_TE e5 R.2.2.1) (fun q => by rw [zTE_st e5 R.2.2.1.1.1.1.1, hs1, hwas]))
    · skip
      skip
      exact absurd rfl hc2
set_option maxHeartbeats 400000 in
set_option maxRecDepth 20000 in
theorem ev_put {ω : zO} (C0 : zX ω 131) {h : zH} {a b e n M X f L : Nat} {hh gg sort : Int32} {was : Int64} {d0 : Drawn} (hd0 : (oS ω).drawn.sameBut d0 lw_cs) (hM : M ≤ 900000) (I : zLi h M n X) (hL : L ≤ 3) (hf : f ≤ n) (hwas : was = zst h M) (hca : a + 40 + 4 * M ≤ (oR ω).cells ∧ b + 6 * (40 + 4 * M) ≤ (oR ω).slots) (kk : ∀ (got : Int32) (g : zH) (n' M' a1 b1 : Nat) (d1 : Drawn), (oS ω).drawn.sameBut d1 lw_cs → a1 ≤ a + (30 + 2 * M) → b1 ≤ b + 6 * (30 + 2 * M) → M ≤ M' → M' ≤ M + 60 → zLi g M' n' (X + 14000) → (got < 0 → zst g M' = was) → ZG (zod ω d1) 131 885 [(12, zi got), (10, zj was), (4, zi (nI e)), (3, zr (some 854)), (2, zi (nI n')), (1, zr (some 0)), (0, zs)] [] g a1 b1) : ZG (zod ω d0) 131 704 [(12, zi (Int32.ofInt (Int.ofNat 0))), (10, zj was), (9, zi sort), (8, zi (nI f)), (7, zi (nI L)), (6, zi hh), (5, zi gg), (4, zi (nI e)), (3, zr (some 854)), (2, zi (nI n)), (1, zr (some 0)), (0, zs)] [] h a b := by
  have C := zX_od C0 d0
  obtain ⟨hca1, hca2⟩ := hca
  refine z_aloadn C rfl rfl ?_
  refine z_bipush C rfl ?_
  refine z_iload C rfl rfl ?_
  refine z_iload C rfl rfl ?_
  refine z_iconst C rfl ?_
  refine z_ishr C rfl ?_
  refine z_bipush C rfl ?_
  refine z_callsq C rfl ⟨by decide, by decide, by decide⟩ (q_low (zKg_of C) (n := 8) (by decide) (by decide) _) rfl rfl (Nat.le_of_ble_eq_true rfl) ⟨(show a + 0 ≤ (oR ω).cells by omega), (show b + 0 ≤ (oR ω).slots by omega)⟩ fun v1 g1 q1 => ?_
  obtain ⟨hg1, j1, hj1, hv1⟩ := q1
  rw [hg1, hv1]
  refine z_iload C rfl rfl ?_
  refine z_bipush C rfl ?_
  refine z_ishr C rfl ?_
  refine z_iconst C rfl ?_
  refine z_callsq C rfl ⟨by decide, by decide, by decide⟩ (q_low (zKg_of C) (n := 4) (by decide) (by decide) _) rfl rfl (Nat.le_of_ble_eq_true rfl) ⟨(show a + 0 ≤ (oR ω).cells by omega), (show b + 0 ≤ (oR ω).slots by omega)⟩ fun v2 g2 q2 => ?_
  obtain ⟨hg2, j2, hj2, hv2⟩ := q2
  rw [hg2, hv2]
  refine z_iload C rfl rfl ?_
  refine z_bipush C rfl ?_
  refine z_ishr C rfl ?_
  refine z_bipush C rfl ?_
  refine z_callsq C rfl ⟨by decide, by decide, by decide⟩ (q_low (zKg_of C) (n := 8) (by decide) (by decide) _) rfl rfl (Nat.le_of_ble_eq_true rfl) ⟨(show a + 0 ≤ (oR ω).cells by omega), (show b + 0 ≤ (oR ω).slots by omega)⟩ fun v3 g3 q3 => ?_
  obtain ⟨hg3, j3, hj3, hv3⟩ := q3
  rw [hg3, hv3]
  refine r_put C rfl (by decide) hM I (Nat.le_of_ble_eq_true rfl) ⟨(show a + 1 ≤ (oR ω).cells by omega), (show b + 6 ≤ (oR ω).slots by omega)⟩ (by omega) (by omega) (by omega) (by omega) fun got g1 M1 a1 b1 ha1 hb1 R hgot => ?_
  refine z_istore C rfl ?_
  refine z_iload C rfl rfl ?_
  refine z_if C rfl (fun hc1 => ?_) (fun hc1 => ?_)
  · skip
    skip
    first | exact z_ll [(12, zi got), (10, zj was), (4, zi (nI e)), (3, zr (some 854)), (2, zi (nI n)), (1, zr (some 0)), (0, zs)] ⟨rfl, rfl, rfl, rfl, rfl, rfl, rfl, trivial⟩ (kk got g1 n M1 a1 b1 d0 hd0 (by omega) (by omega) R.1 R.2.1 R.2.2.1 (fun q => by obtain ⟨w1, w2⟩ := R.2.2.2 q; rw [w1, w2, hwas])) | exact z_ll [(12, zi got), (10, zj was), (4, zi (nI e)), (3, zr (some 854)), (2, zi (nI n)), (1, zr (some 0)), (0, zs)] ⟨rfl, rfl, rfl, rfl, rfl, rfl, rfl, trivial⟩ (kk got g5 n M1 _ _ d5 hD5 (by omega) (by omega) R.1 R.2.1 (zLi_TE e5 R.2.2.1) (fun q => by rw [zTE_st e5 R.2.2.1.1.1.1.1, hs1, hwas]))
  · skip
    skip
    refine z_aloadn C rfl rfl ?_
    obtain ⟨hM1, hs1⟩ := hgot (Int32.not_le.mp hc1)
    subst hM1
    refine z_callsD C0 hd0 rfl ⟨by decide, by decide, by decide⟩ (d_state (zKg_of C) (M := M1) (by omega) g1 R.2.2.1.1.1.1 R.2.2.1.1.2.2) rfl rfl (Nat.le_of_ble_eq_true rfl) ⟨(show a1 + (24 + 2 * M1) ≤ (oR ω).cells by omega), (show b1 + 6 * (24 + 2 * M1) ≤ (oR ω).slots by omega)⟩ fun v5 g5 d5 q5 hD5 => ?_
    obtain ⟨hv5, e5⟩ := q5
    rw [hv5]
    have C := zX_od C0 d5
    refine z_lload C rfl rfl ?_
    refine z_lcmp C rfl ?_
    rw [hs1, ← hwas, zcmp_s]
    refine z_if C rfl (fun hc2 => ?_) (fun hc2 => ?_)
    · skip
      skip
      first | exact z_ll [(12, zi got), (10, zj was), (4, zi (nI e)), (3, zr (some 854)), (2, zi (nI n)), (1, zr (some 0)), (0, zs)] ⟨rfl, rfl, rfl, rfl, rfl, rfl, rfl, trivial⟩ (kk got g1 n M1 a1 b1 d0 hd0 (by omega) (by omega) R.1 R.2.1 R.2.2.1 (fun q => by obtain ⟨w1, w2⟩ := R.2.2.2 q; rw [w1, w2, hwas])) | exact z_ll [(12, zi got), (10, zj was), (4, zi (nI e)), (3, zr (some 854)), (2, zi (nI n)), (1, zr (some 0)), (0, zs)] ⟨rfl, rfl, rfl, rfl, rfl, rfl, rfl, trivial⟩ (kk got g5 n M1 _ _ d5 hD5 (by omega) (by omega) R.1 R.2.1 (zLi_TE e5 R.2.2.1) (fun q => by rw [zTE_st e5 R.2.2.1.1.1.1.1, hs1, hwas]))
    · skip
      skip
      exact absurd rfl hc2
set_option maxHeartbeats 400000 in
set_option maxRecDepth 20000 in
theorem ev_get {ω : zO} (C0 : zX ω 131) {h : zH} {a b e n M X f L : Nat} {hh gg sort : Int32} {was : Int64} {d0 : Drawn} (hd0 : (oS ω).drawn.sameBut d0 lw_cs) (hM : M ≤ 900000) (I : zLi h M n X) (hL : L ≤ 3) (hf : f ≤ n) (hwas : was = zst h M) (hca : a + 40 + 4 * M ≤ (oR ω).cells ∧ b + 6 * (40 + 4 * M) ≤ (oR ω).slots) (kk : ∀ (got : Int32) (g : zH) (n' M' a1 b1 : Nat) (d1 : Drawn), (oS ω).drawn.sameBut d1 lw_cs → a1 ≤ a + (30 + 2 * M) → b1 ≤ b + 6 * (30 + 2 * M) → M ≤ M' → M' ≤ M + 60 → zLi g M' n' (X + 14000) → (got < 0 → zst g M' = was) → ZG (zod ω d1) 131 885 [(12, zi got), (10, zj was), (4, zi (nI e)), (3, zr (some 854)), (2, zi (nI n')), (1, zr (some 0)), (0, zs)] [] g a1 b1) : ZG (zod ω d0) 131 766 [(12, zi (Int32.ofInt (Int.ofNat 0))), (10, zj was), (9, zi sort), (8, zi (nI f)), (7, zi (nI L)), (6, zi hh), (5, zi gg), (4, zi (nI e)), (3, zr (some 854)), (2, zi (nI n)), (1, zr (some 0)), (0, zs)] [] h a b := by
  have C := zX_od C0 d0
  obtain ⟨hca1, hca2⟩ := hca
  refine z_aloadn C rfl rfl ?_
  refine z_bipush C rfl ?_
  refine z_iload C rfl rfl ?_
  refine z_iload C rfl rfl ?_
  refine z_iconst C rfl ?_
  refine z_ishr C rfl ?_
  refine z_bipush C rfl ?_
  refine z_callsq C rfl ⟨by decide, by decide, by decide⟩ (q_low (zKg_of C) (n := 8) (by decide) (by decide) _) rfl rfl (Nat.le_of_ble_eq_true rfl) ⟨(show a + 0 ≤ (oR ω).cells by omega), (show b + 0 ≤ (oR ω).slots by omega)⟩ fun v1 g1 q1 => ?_
  obtain ⟨hg1, j1, hj1, hv1⟩ := q1
  rw [hg1, hv1]
  refine z_iload C rfl rfl ?_
  refine z_bipush C rfl ?_
  refine z_ishr C rfl ?_
  refine z_iconst C rfl ?_
  refine z_callsq C rfl ⟨by decide, by decide, by decide⟩ (q_low (zKg_of C) (n := 4) (by decide) (by decide) _) rfl rfl (Nat.le_of_ble_eq_true rfl) ⟨(show a + 0 ≤ (oR ω).cells by omega), (show b + 0 ≤ (oR ω).slots by omega)⟩ fun v2 g2 q2 => ?_
  obtain ⟨hg2, j2, hj2, hv2⟩ := q2
  rw [hg2, hv2]
  refine z_iload C rfl rfl ?_
  refine z_bipush C rfl ?_
  refine z_ishr C rfl ?_
  refine z_bipush C rfl ?_
  refine z_callsq C rfl ⟨by decide, by decide, by decide⟩ (q_low (zKg_of C) (n := 8) (by decide) (by decide) _) rfl rfl (Nat.le_of_ble_eq_true rfl) ⟨(show a + 0 ≤ (oR ω).cells by omega), (show b + 0 ≤ (oR ω).slots by omega)⟩ fun v3 g3 q3 => ?_
  obtain ⟨hg3, j3, hj3, hv3⟩ := q3
  rw [hg3, hv3]
  refine r_get C rfl (by decide) hM I (Nat.le_of_ble_eq_true rfl) ⟨(show a + 1 ≤ (oR ω).cells by omega), (show b + 6 ≤ (oR ω).slots by omega)⟩ (by omega) (by omega) (by omega) (by omega) fun got g1 M1 a1 b1 ha1 hb1 R hgot => ?_
  refine z_istore C rfl ?_
  refine z_iload C rfl rfl ?_
  refine z_if C rfl (fun hc1 => ?_) (fun hc1 => ?_)
  · skip
    skip
    first | exact z_ll [(12, zi got), (10, zj was), (4, zi (nI e)), (3, zr (some 854)), (2, zi (nI n)), (1, zr (some 0)), (0, zs)] ⟨rfl, rfl, rfl, rfl, rfl, rfl, rfl, trivial⟩ (kk got g1 n M1 a1 b1 d0 hd0 (by omega) (by omega) R.1 R.2.1 R.2.2.1 (fun q => by obtain ⟨w1, w2⟩ := R.2.2.2 q; rw [w1, w2, hwas])) | exact z_ll [(12, zi got), (10, zj was), (4, zi (nI e)), (3, zr (some 854)), (2, zi (nI n)), (1, zr (some 0)), (0, zs)] ⟨rfl, rfl, rfl, rfl, rfl, rfl, rfl, trivial⟩ (kk got g5 n M1 _ _ d5 hD5 (by omega) (by omega) R.1 R.2.1 (zLi_TE e5 R.2.2.1) (fun q => by rw [zTE_st e5 R.2.2.1.1.1.1.1, hs1, hwas]))
  · skip
    skip
    refine z_aloadn C rfl rfl ?_
    obtain ⟨hM1, hs1⟩ := hgot (Int32.not_le.mp hc1)
    subst hM1
    refine z_callsD C0 hd0 rfl ⟨by decide, by decide, by decide⟩ (d_state (zKg_of C) (M := M1) (by omega) g1 R.2.2.1.1.1.1 R.2.2.1.1.2.2) rfl rfl (Nat.le_of_ble_eq_true rfl) ⟨(show a1 + (24 + 2 * M1) ≤ (oR ω).cells by omega), (show b1 + 6 * (24 + 2 * M1) ≤ (oR ω).slots by omega)⟩ fun v5 g5 d5 q5 hD5 => ?_
    obtain ⟨hv5, e5⟩ := q5
    rw [hv5]
    have C := zX_od C0 d5
    refine z_lload C rfl rfl ?_
    refine z_lcmp C rfl ?_
    rw [hs1, ← hwas, zcmp_s]
    refine z_if C rfl (fun hc2 => ?_) (fun hc2 => ?_)
    · skip
      skip
      first | exact z_ll [(12, zi got), (10, zj was), (4, zi (nI e)), (3, zr (some 854)), (2, zi (nI n)), (1, zr (some 0)), (0, zs)] ⟨rfl, rfl, rfl, rfl, rfl, rfl, rfl, trivial⟩ (kk got g1 n M1 a1 b1 d0 hd0 (by omega) (by omega) R.1 R.2.1 R.2.2.1 (fun q => by obtain ⟨w1, w2⟩ := R.2.2.2 q; rw [w1, w2, hwas])) | exact z_ll [(12, zi got), (10, zj was), (4, zi (nI e)), (3, zr (some 854)), (2, zi (nI n)), (1, zr (some 0)), (0, zs)] ⟨rfl, rfl, rfl, rfl, rfl, rfl, rfl, trivial⟩ (kk got g5 n M1 _ _ d5 hD5 (by omega) (by omega) R.1 R.2.1 (zLi_TE e5 R.2.2.1) (fun q => by rw [zTE_st e5 R.2.2.1.1.1.1.1, hs1, hwas]))
    · skip
      skip
      exact absurd rfl hc2
