/-! the law: functions, codes, guards, collections -/
set_option maxHeartbeats 400000 in
set_option maxRecDepth 20000 in
theorem ev_addF {ω : zO} (C0 : zX ω 131) {h : zH} {a b e n M X f L : Nat} {hh gg sort : Int32} {was : Int64} {d0 : Drawn} (hd0 : (oS ω).drawn.sameBut d0 lw_cs) (hM : M ≤ 900000) (I : zLi h M n X) (hL : L ≤ 3) (hf : f ≤ n) (hwas : was = zst h M) (hca : a + 40 + 4 * M ≤ (oR ω).cells ∧ b + 6 * (40 + 4 * M) ≤ (oR ω).slots) (kk : ∀ (got : Int32) (g : zH) (n' M' a1 b1 : Nat) (d1 : Drawn), (oS ω).drawn.sameBut d1 lw_cs → a1 ≤ a + (30 + 2 * M) → b1 ≤ b + 6 * (30 + 2 * M) → M ≤ M' → M' ≤ M + 0 → zLi g M' n' (X + 14000) → (got < 0 → zst g M' = was) → ZG (zod ω d1) 131 885 [(12, zi got), (10, zj was), (4, zi (nI e)), (3, zr (some 854)), (2, zi (nI n')), (1, zr (some 0)), (0, zs)] [] g a1 b1) : ZG (zod ω d0) 131 125 [(12, zi (Int32.ofInt (Int.ofNat 0))), (10, zj was), (9, zi sort), (8, zi (nI f)), (7, zi (nI L)), (6, zi hh), (5, zi gg), (4, zi (nI e)), (3, zr (some 854)), (2, zi (nI n)), (1, zr (some 0)), (0, zs)] [] h a b := by
  have C := zX_od C0 d0
  obtain ⟨hca1, hca2⟩ := hca
  refine z_aloadn C rfl rfl ?_
  refine z_iconst C rfl ?_
  refine z_iload C rfl rfl ?_
  refine z_iload C rfl rfl ?_
  refine z_iconst C rfl ?_
  refine z_ishr C rfl ?_
  refine z_iconst C rfl ?_
  refine z_callsq C rfl ⟨by decide, by decide, by decide⟩ (q_low (zKg_of C) (n := 4) (by decide) (by decide) _) rfl rfl (Nat.le_of_ble_eq_true rfl) ⟨(show a + 0 ≤ (oR ω).cells by omega), (show b + 0 ≤ (oR ω).slots by omega)⟩ fun v1 g1 q1 => ?_
  obtain ⟨hg1, j1, hj1, hv1⟩ := q1
  rw [hg1, hv1]
  refine z_iconst C rfl ?_
  refine z_iconst C rfl ?_
  refine r_addF C rfl (by decide) hM I (Nat.le_of_ble_eq_true rfl) ⟨(show a + 1 ≤ (oR ω).cells by omega), (show b + 6 ≤ (oR ω).slots by omega)⟩ (by omega) (by omega) fun got g1 n1 a1 b1 ha1 hb1 Lg hd => ?_
  have n9 := I.2.2.1
  rcases hd with ⟨ge, ne⟩ | ⟨gneg, ne, he⟩
  · subst ne
    rw [ge]
    refine z_istore C rfl ?_
    refine z_iload C rfl rfl ?_
    refine z_if C rfl (fun hc => absurd hc (nI_pos (by omega))) (fun _ => ?_)
    refine z_iload C rfl rfl ?_
    refine z_iloadn C rfl rfl ?_
    refine z_icmp C rfl (fun _ => ?_) (fun hc => absurd rfl hc)
    refine z_iloadn C rfl rfl ?_
    refine z_iload C rfl rfl ?_
    refine z_if C rfl (fun hc => absurd hc (nI_pos (by omega))) (fun _ => ?_)
    refine z_iconst C rfl ?_
    refine z_goto C rfl ?_
    refine z_iadd C rfl ?_
    refine z_istoren C rfl ?_
    refine z_goto C rfl ?_
    exact z_ll [(12, zi (nI n)), (10, zj was), (4, zi (nI e)), (3, zr (some 854)), (2, zi (nI (n + 1))), (1, zr (some 0)), (0, zs)] ⟨rfl, rfl, rfl, rfl, (znx n), rfl, rfl, trivial⟩ (kk (nI n) g1 (n + 1) M a1 b1 d0 hd0 (by omega) (by omega) (Nat.le_refl _) (by omega) (zLi_le Lg (by omega)) (fun q => absurd q (nI_pos (by omega))))
  · rw [ne, he] at Lg
    rw [he]
    refine z_istore C rfl ?_
    refine z_iload C rfl rfl ?_
    refine z_if C rfl (fun _ => ?_) (fun hc => absurd gneg hc)
    refine z_iloadn C rfl rfl ?_
    refine z_iload C rfl rfl ?_
    refine z_if C rfl (fun _ => ?_) (fun hc => absurd gneg hc)
    refine z_iconst C rfl ?_
    refine z_iadd C rfl ?_
    refine z_istoren C rfl ?_
    refine z_goto C rfl ?_
    exact z_ll [(12, zi got), (10, zj was), (4, zi (nI e)), (3, zr (some 854)), (2, zi (nI n)), (1, zr (some 0)), (0, zs)] ⟨rfl, rfl, rfl, rfl, (congrArg (fun x => some (zi x)) (Int32.add_zero (nI n))), rfl, rfl, trivial⟩ (kk got h n M a1 b1 d0 hd0 (by omega) (by omega) (Nat.le_refl _) (by omega) (zLi_le Lg (by omega)) (fun _ => hwas.symm))
set_option maxHeartbeats 400000 in
set_option maxRecDepth 20000 in
theorem ev_code {ω : zO} (C0 : zX ω 131) {h : zH} {a b e n M X f L : Nat} {hh gg sort : Int32} {was : Int64} {d0 : Drawn} (hd0 : (oS ω).drawn.sameBut d0 lw_cs) (hM : M ≤ 900000) (I : zLi h M n X) (hL : L ≤ 3) (hf : f ≤ n) (hwas : was = zst h M) (hca : a + 40 + 4 * M ≤ (oR ω).cells ∧ b + 6 * (40 + 4 * M) ≤ (oR ω).slots) (kk : ∀ (got : Int32) (g : zH) (n' M' a1 b1 : Nat) (d1 : Drawn), (oS ω).drawn.sameBut d1 lw_cs → a1 ≤ a + (30 + 2 * M) → b1 ≤ b + 6 * (30 + 2 * M) → M ≤ M' → M' ≤ M + 0 → zLi g M' n' (X + 14000) → (got < 0 → zst g M' = was) → ZG (zod ω d1) 131 885 [(12, zi got), (10, zj was), (4, zi (nI e)), (3, zr (some 854)), (2, zi (nI n')), (1, zr (some 0)), (0, zs)] [] g a1 b1) : ZG (zod ω d0) 131 180 [(12, zi (Int32.ofInt (Int.ofNat 0))), (10, zj was), (9, zi sort), (8, zi (nI f)), (7, zi (nI L)), (6, zi hh), (5, zi gg), (4, zi (nI e)), (3, zr (some 854)), (2, zi (nI n)), (1, zr (some 0)), (0, zs)] [] h a b := by
  have C := zX_od C0 d0
  obtain ⟨hca1, hca2⟩ := hca
  refine z_chop C rfl ⟨(show a ≤ (oR ω).cells by omega), (show b ≤ (oR ω).slots by omega)⟩ fun j9 hj9 => ?_
  refine z_istore C rfl ?_
  refine z_aloadn C rfl rfl ?_
  refine z_iconst C rfl ?_
  refine z_iload C rfl rfl ?_
  refine z_iload C rfl rfl ?_
  refine z_iload C rfl rfl ?_
  refine z_bipush C rfl ?_
  refine z_ishr C rfl ?_
  refine z_iconst C rfl ?_
  refine z_callsq C rfl ⟨by decide, by decide, by decide⟩ (q_low (zKg_of C) (n := 5) (by decide) (by decide) _) rfl rfl (Nat.le_of_ble_eq_true rfl) ⟨(show a + 0 ≤ (oR ω).cells by omega), (show b + 0 ≤ (oR ω).slots by omega)⟩ fun v1 g1 q1 => ?_
  obtain ⟨hg1, j1, hj1, hv1⟩ := q1
  rw [hg1, hv1]
  refine z_iconst C rfl ?_
  refine r_code C rfl (by decide) hM I (Nat.le_of_ble_eq_true rfl) ⟨(show a + 1 ≤ (oR ω).cells by omega), (show b + 6 ≤ (oR ω).slots by omega)⟩ hf hj9 fun got g1 a1 b1 ha1 hb1 hd => ?_
  rcases hd with ⟨k9, hk20, hf9, ge, e854, LI⟩ | ⟨gneg, he⟩
  · rw [ge]
    refine z_istore C rfl ?_
    refine z_iload C rfl rfl ?_
    refine z_if C rfl (fun hc => absurd hc (nI_pos (by omega))) (fun _ => ?_)
    refine z_iload C rfl rfl ?_
    refine z_aloadn C rfl rfl ?_
    refine z_iload C rfl rfl ?_
    refine z_iald C rfl zS_854 (zin hf9 (by decide)) ?_
    rw [zclamp hf9 (by decide), e854]
    refine z_icmp C rfl (fun _ => ?_) (fun hc => absurd rfl hc)
    refine z_iload C rfl rfl ?_
    refine z_if C rfl (fun hc => absurd hc (nI_pos (by omega))) (fun _ => ?_)
    refine z_aloadn C rfl rfl ?_
    refine z_iload C rfl rfl ?_
    refine z_dup2 C rfl rfl rfl ?_
    refine z_iald C rfl zS_854 (zin hf9 (by decide)) ?_
    rw [zclamp hf9 (by decide), e854]
    refine z_iconst C rfl ?_
    refine z_iadd C rfl ?_
    refine z_iast C rfl zS_854 (zin hf9 (by decide)) ?_
    rw [zclamp hf9 (by decide), show nI k9 + Int32.ofInt (Int.ofNat 1) = nI (k9 + 1) from nI_1 k9]
    refine z_goto C rfl ?_
    exact z_ll [(12, zi (nI k9)), (10, zj was), (4, zi (nI e)), (3, zr (some 854)), (2, zi (nI n)), (1, zr (some 0)), (0, zs)] ⟨rfl, rfl, rfl, rfl, rfl, rfl, rfl, trivial⟩ (kk (nI k9) (zupI g1 854 f (nI (k9 + 1))) n M a1 b1 d0 hd0 (by omega) (by omega) (Nat.le_refl _) (by omega) (zLi_le LI (by omega)) (fun q => absurd q (nI_pos (by omega))))
  · rw [he]
    refine z_istore C rfl ?_
    refine z_iload C rfl rfl ?_
    refine z_if C rfl (fun _ => ?_) (fun hc => absurd gneg hc)
    refine z_iload C rfl rfl ?_
    refine z_if C rfl (fun _ => ?_) (fun hc => absurd gneg hc)
    refine z_goto C rfl ?_
    exact z_ll [(12, zi got), (10, zj was), (4, zi (nI e)), (3, zr (some 854)), (2, zi (nI n)), (1, zr (some 0)), (0, zs)] ⟨rfl, rfl, rfl, rfl, rfl, rfl, rfl, trivial⟩ (kk got h n M a1 b1 d0 hd0 (by omega) (by omega) (Nat.le_refl _) (by omega) (zLi_le I (by omega)) (fun _ => hwas.symm))
set_option maxHeartbeats 400000 in
set_option maxRecDepth 20000 in
theorem ev_guard {ω : zO} (C0 : zX ω 131) {h : zH} {a b e n M X f L : Nat} {hh gg sort : Int32} {was : Int64} {d0 : Drawn} (hd0 : (oS ω).drawn.sameBut d0 lw_cs) (hM : M ≤ 900000) (I : zLi h M n X) (hL : L ≤ 3) (hf : f ≤ n) (hwas : was = zst h M) (hca : a + 40 + 4 * M ≤ (oR ω).cells ∧ b + 6 * (40 + 4 * M) ≤ (oR ω).slots) (kk : ∀ (got : Int32) (g : zH) (n' M' a1 b1 : Nat) (d1 : Drawn), (oS ω).drawn.sameBut d1 lw_cs → a1 ≤ a + (30 + 2 * M) → b1 ≤ b + 6 * (30 + 2 * M) → M ≤ M' → M' ≤ M + 0 → zLi g M' n' (X + 14000) → (got < 0 → zst g M' = was) → ZG (zod ω d1) 131 885 [(12, zi got), (10, zj was), (4, zi (nI e)), (3, zr (some 854)), (2, zi (nI n')), (1, zr (some 0)), (0, zs)] [] g a1 b1) : ZG (zod ω d0) 131 256 [(12, zi (Int32.ofInt (Int.ofNat 0))), (10, zj was), (9, zi sort), (8, zi (nI f)), (7, zi (nI L)), (6, zi hh), (5, zi gg), (4, zi (nI e)), (3, zr (some 854)), (2, zi (nI n)), (1, zr (some 0)), (0, zs)] [] h a b := by
  have C := zX_od C0 d0
  obtain ⟨hca1, hca2⟩ := hca
  refine z_aloadn C rfl rfl ?_
  refine z_iconst C rfl ?_
  refine z_iload C rfl rfl ?_
  refine z_bipush C rfl ?_
  refine z_iload C rfl rfl ?_
  refine z_bipush C rfl ?_
  refine z_callsq C rfl ⟨by decide, by decide, by decide⟩ (q_low (zKg_of C) (n := 6) (by decide) (by decide) _) rfl rfl (Nat.le_of_ble_eq_true rfl) ⟨(show a + 0 ≤ (oR ω).cells by omega), (show b + 0 ≤ (oR ω).slots by omega)⟩ fun v1 g1 q1 => ?_
  obtain ⟨hg1, j1, hj1, hv1⟩ := q1
  rw [hg1, hv1]
  refine z_imul C rfl ?_
  refine z_iload C rfl rfl ?_
  refine z_iconst C rfl ?_
  refine z_ishr C rfl ?_
  refine z_bipush C rfl ?_
  refine z_callsq C rfl ⟨by decide, by decide, by decide⟩ (q_low (zKg_of C) (n := 9) (by decide) (by decide) _) rfl rfl (Nat.le_of_ble_eq_true rfl) ⟨(show a + 0 ≤ (oR ω).cells by omega), (show b + 0 ≤ (oR ω).slots by omega)⟩ fun v2 g2 q2 => ?_
  obtain ⟨hg2, j2, hj2, hv2⟩ := q2
  rw [hg2, hv2]
  refine z_iadd C rfl ?_
  refine z_iload C rfl rfl ?_
  refine z_bipush C rfl ?_
  refine z_ishr C rfl ?_
  refine z_bipush C rfl ?_
  refine z_callsq C rfl ⟨by decide, by decide, by decide⟩ (q_low (zKg_of C) (n := 10) (by decide) (by decide) _) rfl rfl (Nat.le_of_ble_eq_true rfl) ⟨(show a + 0 ≤ (oR ω).cells by omega), (show b + 0 ≤ (oR ω).slots by omega)⟩ fun v3 g3 q3 => ?_
  obtain ⟨hg3, j3, hj3, hv3⟩ := q3
  rw [hg3, hv3]
  refine z_iconst C rfl ?_
  refine z_isub C rfl ?_
  refine z_iload C rfl rfl ?_
  refine z_bipush C rfl ?_
  refine z_ishr C rfl ?_
  refine z_iconst C rfl ?_
  refine z_iand C rfl ?_
  refine r_guard C rfl (by decide) hM I (Nat.le_of_ble_eq_true rfl) ⟨(show a + 1 ≤ (oR ω).cells by omega), (show b + 6 ≤ (oR ω).slots by omega)⟩ hf fun got g1 a1 b1 ha1 hb1 Lg hd => ?_
  refine z_istore C rfl ?_
  refine z_goto C rfl ?_
  exact z_ll [(12, zi got), (10, zj was), (4, zi (nI e)), (3, zr (some 854)), (2, zi (nI n)), (1, zr (some 0)), (0, zs)] ⟨rfl, rfl, rfl, rfl, rfl, rfl, rfl, trivial⟩ (kk got g1 n M a1 b1 d0 hd0 (by omega) (by omega) (Nat.le_refl _) (by omega) (zLi_le Lg (by omega)) (fun q => by rcases hd with w | w; exact absurd w (Int32.not_le.mpr q); rw [w, hwas]))
set_option maxHeartbeats 400000 in
set_option maxRecDepth 20000 in
theorem ev_coll {ω : zO} (C0 : zX ω 131) {h : zH} {a b e n M X f L : Nat} {hh gg sort : Int32} {was : Int64} {d0 : Drawn} (hd0 : (oS ω).drawn.sameBut d0 lw_cs) (hM : M ≤ 900000) (I : zLi h M n X) (hL : L ≤ 3) (hf : f ≤ n) (hwas : was = zst h M) (hca : a + 40 + 4 * M ≤ (oR ω).cells ∧ b + 6 * (40 + 4 * M) ≤ (oR ω).slots) (kk : ∀ (got : Int32) (g : zH) (n' M' a1 b1 : Nat) (d1 : Drawn), (oS ω).drawn.sameBut d1 lw_cs → a1 ≤ a + (30 + 2 * M) → b1 ≤ b + 6 * (30 + 2 * M) → M ≤ M' → M' ≤ M + 60 → zLi g M' n' (X + 14000) → (got < 0 → zst g M' = was) → ZG (zod ω d1) 131 885 [(12, zi got), (10, zj was), (4, zi (nI e)), (3, zr (some 854)), (2, zi (nI n')), (1, zr (some 0)), (0, zs)] [] g a1 b1) : ZG (zod ω d0) 131 821 [(12, zi (Int32.ofInt (Int.ofNat 0))), (10, zj was), (9, zi sort), (8, zi (nI f)), (7, zi (nI L)), (6, zi hh), (5, zi gg), (4, zi (nI e)), (3, zr (some 854)), (2, zi (nI n)), (1, zr (some 0)), (0, zs)] [] h a b := by
  have C := zX_od C0 d0
  obtain ⟨hca1, hca2⟩ := hca
  refine z_aloadn C rfl rfl ?_
  refine z_callv C rfl ⟨by decide, by decide⟩ zS_0 (c_freed (zKg_of C) h I.1.1.1) rfl rfl (Nat.le_of_ble_eq_true rfl) ⟨(show a + 0 ≤ (oR ω).cells by omega), (show b + 0 ≤ (oR ω).slots by omega)⟩ ?_
  refine z_istore C rfl ?_
  refine z_aloadn C rfl rfl ?_
  refine z_iload C rfl rfl ?_
  refine z_bipush C rfl ?_
  refine z_icmp C rfl (fun hs => ?_) (fun hs => ?_)
  · skip
    refine z_bipush C rfl ?_
    refine z_iconst C rfl ?_
    refine z_iconst C rfl ?_
    refine z_iconst C rfl ?_
    refine z_iconst C rfl ?_
    refine r_coll21 C rfl (by decide) hM I (Nat.le_of_ble_eq_true rfl) ⟨(show a + 1 ≤ (oR ω).cells by omega), (show b + 6 ≤ (oR ω).slots by omega)⟩ fun got g1 Lg g0 e25 eg egot => ?_
    refine z_istore C rfl ?_
    refine z_aloadn C rfl rfl ?_
    refine z_callv C rfl ⟨by decide, by decide⟩ zS_0 (c_freed (zKg_of C) g1 Lg.1.1.1) rfl rfl (Nat.le_of_ble_eq_true rfl) ⟨(show a + 0 ≤ (oR ω).cells by omega), (show b + 0 ≤ (oR ω).slots by omega)⟩ ?_
    refine z_iload C rfl rfl ?_
    refine z_iload C rfl rfl ?_
    refine z_iadd C rfl ?_
    refine z_icmp C rfl (fun hc => absurd e25 hc) (fun _ => ?_)
    refine z_iload C rfl rfl ?_
    refine z_bipush C rfl ?_
    refine z_icmp C rfl (fun hc1 => ?_) (fun hc1 => ?_)
    · skip
      skip
      first | exact z_ll [(12, zi got), (10, zj was), (4, zi (nI e)), (3, zr (some 854)), (2, zi (nI n)), (1, zr (some 0)), (0, zs)] ⟨rfl, rfl, rfl, rfl, rfl, rfl, rfl, trivial⟩ (kk got g2 n M a b d0 hd0 (by omega) (by omega) (Nat.le_refl _) (by omega) (zLi_le Lg2 (by omega)) (fun q => absurd g0 (Int32.not_le.mpr q))) | exact z_ll [(12, zi got), (10, zj was), (4, zi (nI e)), (3, zr (some 854)), (2, zi (nI n)), (1, zr (some 0)), (0, zs)] ⟨rfl, rfl, rfl, rfl, rfl, rfl, rfl, trivial⟩ (kk got g1 n M a b d0 hd0 (by omega) (by omega) (Nat.le_refl _) (by omega) (zLi_le Lg (by omega)) (fun q => absurd g0 (Int32.not_le.mpr q)))
    · skip
      skip
      refine z_aloadn C rfl rfl ?_
      refine z_bipush C rfl ?_
      refine z_iconst C rfl ?_
      refine z_iconst C rfl ?_
      refine z_iconst C rfl ?_
      refine z_iconst C rfl ?_
      refine r_coll21 C rfl (by decide) hM Lg (Nat.le_of_ble_eq_true rfl) ⟨(show a + 1 ≤ (oR ω).cells by omega), (show b + 6 ≤ (oR ω).slots by omega)⟩ fun got2 g2 Lg2 g02 e252 eg2 egot2 => ?_
      have z2 : got2 = 0 := by
        rw [egot2, eg2, eg, zfreeU_2 (by decide) (by omega) I.1.1 I.1.2.2]
        exact Int32.sub_self _
      refine z_if C rfl (fun _ => ?_) (fun hc => absurd z2 hc)
      first | exact z_ll [(12, zi got), (10, zj was), (4, zi (nI e)), (3, zr (some 854)), (2, zi (nI n)), (1, zr (some 0)), (0, zs)] ⟨rfl, rfl, rfl, rfl, rfl, rfl, rfl, trivial⟩ (kk got g2 n M a b d0 hd0 (by omega) (by omega) (Nat.le_refl _) (by omega) (zLi_le Lg2 (by omega)) (fun q => absurd g0 (Int32.not_le.mpr q))) | exact z_ll [(12, zi got), (10, zj was), (4, zi (nI e)), (3, zr (some 854)), (2, zi (nI n)), (1, zr (some 0)), (0, zs)] ⟨rfl, rfl, rfl, rfl, rfl, rfl, rfl, trivial⟩ (kk got g1 n M a b d0 hd0 (by omega) (by omega) (Nat.le_refl _) (by omega) (zLi_le Lg (by omega)) (fun q => absurd g0 (Int32.not_le.mpr q)))
  · skip
    refine z_bipush C rfl ?_
    refine z_goto C rfl ?_
    refine z_iconst C rfl ?_
    refine z_iconst C rfl ?_
    refine z_iconst C rfl ?_
    refine z_iconst C rfl ?_
    refine r_coll20 C rfl (by decide) hM I (Nat.le_of_ble_eq_true rfl) ⟨(show a + 1 ≤ (oR ω).cells by omega), (show b + 6 ≤ (oR ω).slots by omega)⟩ fun got g1 Lg g0 e25 eg egot => ?_
    refine z_istore C rfl ?_
    refine z_aloadn C rfl rfl ?_
    refine z_callv C rfl ⟨by decide, by decide⟩ zS_0 (c_freed (zKg_of C) g1 Lg.1.1.1) rfl rfl (Nat.le_of_ble_eq_true rfl) ⟨(show a + 0 ≤ (oR ω).cells by omega), (show b + 0 ≤ (oR ω).slots by omega)⟩ ?_
    refine z_iload C rfl rfl ?_
    refine z_iload C rfl rfl ?_
    refine z_iadd C rfl ?_
    refine z_icmp C rfl (fun hc => absurd e25 hc) (fun _ => ?_)
    refine z_iload C rfl rfl ?_
    refine z_bipush C rfl ?_
    refine z_icmp C rfl (fun _ => ?_) (fun hc => absurd (show sort ≤ Int32.ofInt (Int.ofNat 29) by rw [show sort = Int32.ofInt (Int.ofNat 29) from Decidable.of_not_not hs]; exact Int32.le_refl _) hc)
    exact z_ll [(12, zi got), (10, zj was), (4, zi (nI e)), (3, zr (some 854)), (2, zi (nI n)), (1, zr (some 0)), (0, zs)] ⟨rfl, rfl, rfl, rfl, rfl, rfl, rfl, trivial⟩ (kk got g1 n M a b d0 hd0 (by omega) (by omega) (Nat.le_refl _) (by omega) (zLi_le Lg (by omega)) (fun q => absurd g0 (Int32.not_le.mpr q)))
