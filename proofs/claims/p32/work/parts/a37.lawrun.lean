/-! the law: runs; the end of an event -/
theorem zcmp_ge {x m : Nat} (h : x + m < 2 ^ 62) : ¬ lg_cmp (Int64.ofNat x + Int64.ofNat m) (Int64.ofNat x) < 0 := by
  rw [← Int64.ofNat_add]
  have e1 : (Int64.ofNat (x + m)).toInt = (x + m : Nat) := Int64.toInt_ofNat_of_lt (by omega)
  have e2 : (Int64.ofNat x).toInt = (x : Nat) := Int64.toInt_ofNat_of_lt (by omega)
  unfold lg_cmp
  split
  · decide
  · rename_i c
    split
    · decide
    · rename_i c2
      exfalso
      refine c2 (Int64.toInt_inj.mp ?_)
      have c3 : ¬ (Int64.ofNat x).toInt < (Int64.ofNat (x + m)).toInt := fun q => c (Int64.lt_iff_toInt_lt.mpr q)
      rw [e1, e2] at c3 ⊢
      omega
set_option maxHeartbeats 400000 in
set_option maxRecDepth 20000 in
theorem ev_run {ω : zO} (C0 : zX ω 131) {h : zH} {a b e n M X f L : Nat} {hh gg sort : Int32} {was : Int64} {d0 : Drawn} (hd0 : (oS ω).drawn.sameBut d0 lw_cs) (hM : M ≤ 900000) (hX : X ≤ 1000000000) (I : zLi h M n X) (hL : L ≤ 3) (hf : f ≤ n) (hwas : was = zst h M) (hca : a + 40 + 4 * M ≤ (oR ω).cells ∧ b + 6 * (40 + 4 * M) ≤ (oR ω).slots) (kk : ∀ (got : Int32) (g : zH) (n' M' a1 b1 : Nat) (d1 : Drawn), (oS ω).drawn.sameBut d1 lw_cs → a1 ≤ a + (30 + 2 * M) → b1 ≤ b + 6 * (30 + 2 * M) → M ≤ M' → M' ≤ M + 60 → zLi g M' n' (X + 14000) → (got < 0 → zst g M' = was) → ZG (zod ω d1) 131 885 [(12, zi got), (10, zj was), (4, zi (nI e)), (3, zr (some 854)), (2, zi (nI n')), (1, zr (some 0)), (0, zs)] [] g a1 b1) : ZG (zod ω d0) 131 314 [(12, zi (Int32.ofInt (Int.ofNat 0))), (10, zj was), (9, zi sort), (8, zi (nI f)), (7, zi (nI L)), (6, zi hh), (5, zi gg), (4, zi (nI e)), (3, zr (some 854)), (2, zi (nI n)), (1, zr (some 0)), (0, zs)] [] h a b := by
  have C := zX_od C0 d0
  obtain ⟨hca1, hca2⟩ := hca
  refine z_aloadn C rfl rfl ?_
  refine z_callv C rfl ⟨by decide, by decide⟩ zS_0 (c_crossings (zKg_of C) h I.1.1.1) rfl rfl (Nat.le_of_ble_eq_true rfl) ⟨(show a + 0 ≤ (oR ω).cells by omega), (show b + 0 ≤ (oR ω).slots by omega)⟩ ?_
  refine z_lstore C rfl ?_
  refine z_aloadn C rfl rfl ?_
  refine z_callv C rfl ⟨by decide, by decide⟩ zS_0 (c_made (zKg_of C) h I.1.1.1) rfl rfl (Nat.le_of_ble_eq_true rfl) ⟨(show a + 0 ≤ (oR ω).cells by omega), (show b + 0 ≤ (oR ω).slots by omega)⟩ ?_
  refine z_istore C rfl ?_
  refine z_aloadn C rfl rfl ?_
  refine z_iconst C rfl ?_
  refine z_iload C rfl rfl ?_
  refine z_iload C rfl rfl ?_
  refine z_bipush C rfl ?_
  refine z_callsq C rfl ⟨by decide, by decide, by decide⟩ (q_low (zKg_of C) (n := 20) (by decide) (by decide) _) rfl rfl (Nat.le_of_ble_eq_true rfl) ⟨(show a + 0 ≤ (oR ω).cells by omega), (show b + 0 ≤ (oR ω).slots by omega)⟩ fun v1 g1 q1 => ?_
  obtain ⟨hg1, j1, hj1, hv1⟩ := q1
  rw [hg1, hv1]
  refine z_iconst C rfl ?_
  refine z_isub C rfl ?_
  refine z_iload C rfl rfl ?_
  refine z_iconst C rfl ?_
  refine z_ishr C rfl ?_
  refine z_bipush C rfl ?_
  refine z_callsq C rfl ⟨by decide, by decide, by decide⟩ (q_low (zKg_of C) (n := 20) (by decide) (by decide) _) rfl rfl (Nat.le_of_ble_eq_true rfl) ⟨(show a + 0 ≤ (oR ω).cells by omega), (show b + 0 ≤ (oR ω).slots by omega)⟩ fun v2 g2 q2 => ?_
  obtain ⟨hg2, j2, hj2, hv2⟩ := q2
  rw [hg2, hv2]
  refine z_iconst C rfl ?_
  refine r_run C rfl (by decide) hM I (Nat.le_of_ble_eq_true rfl) ⟨(show a + 1 ≤ (oR ω).cells by omega), (show b + 6 ≤ (oR ω).slots by omega)⟩ hf fun got g1 M1 a1 b1 ha1 hb1 hd => ?_
  rcases hd with ⟨ge, he, hm1⟩ | ⟨m1, m2, Lg, ge, O, m, hm, ec⟩
  · rw [ge, he]
    refine z_istore C rfl ?_
    refine z_iload C rfl rfl ?_
    refine z_if C rfl (fun _ => ?_) (fun hc => absurd (show (-1001 : Int32) < 0 by decide) hc)
    refine z_iload C rfl rfl ?_
    refine z_if C rfl (fun hc => absurd hc (show ¬ (0 : Int32) ≤ -1001 by decide)) (fun _ => ?_)
    refine z_iload C rfl rfl ?_
    refine z_goto C rfl ?_
    refine z_istore C rfl ?_
    refine z_goto C rfl ?_
    exact z_ll [(12, zi (-1001)), (10, zj was), (4, zi (nI e)), (3, zr (some 854)), (2, zi (nI n)), (1, zr (some 0)), (0, zs)] ⟨rfl, rfl, rfl, rfl, rfl, rfl, rfl, trivial⟩ (kk (-1001) h n M a1 b1 d0 hd0 (by omega) (by omega) (Nat.le_refl _) (by omega) (zLi_le I (by omega)) (fun _ => hwas.symm))
  have hwg := Lg.1.1.1
  obtain ⟨-, -, -, -, x, hx, ex⟩ := id I
  rw [ge]
  rcases O with ov | ov | ⟨ov, t, t1, t24, et⟩
  · rw [ov]
    refine z_istore C rfl ?_
    refine z_iload C rfl rfl ?_
    refine z_if C rfl (fun hc => absurd hc (show ¬ (108 : Int32) < 0 by decide)) (fun _ => ?_)
    refine z_iload C rfl rfl ?_
    refine z_bipush C rfl ?_
    refine z_icmp C rfl (fun _ => ?_) (fun hc => absurd (show ¬ (108 : Int32) = Int32.ofInt (Int.ofNat 120) by decide) hc)
    refine z_iconst C rfl ?_
    refine z_istore C rfl ?_
    refine z_iload C rfl rfl ?_
    refine z_bipush C rfl ?_
    refine z_icmp C rfl (fun hc => absurd hc (show ¬ (108 : Int32) = Int32.ofInt (Int.ofNat 114) by decide)) (fun _ => ?_)
    refine z_iload C rfl rfl ?_
    refine z_bipush C rfl ?_
    refine z_icmp C rfl (fun hc => absurd hc (show ¬ (108 : Int32) = Int32.ofInt (Int.ofNat 120) by decide)) (fun _ => ?_)
    refine z_iload C rfl rfl ?_
    refine z_bipush C rfl ?_
    refine z_icmp C rfl (fun hc => absurd rfl hc) (fun _ => ?_)
    refine z_aloadn C rfl rfl ?_
    refine z_iconst C rfl ?_
    refine z_iconst C rfl ?_
    refine z_iconst C rfl ?_
    refine z_iconst C rfl ?_
    refine z_iconst C rfl ?_
    refine r_resK C rfl (by decide) hwg (Nat.le_of_ble_eq_true rfl) ⟨(show a1 + 1 ≤ (oR ω).cells by omega), (show b1 + 6 ≤ (oR ω).slots by omega)⟩  fun got4 a4 b4 ha4 hb4 h4 => ?_
    have g4 : got4 = -1005 := h4.mpr (by unfold zhasR; rw [ov]; rfl)
    rw [g4]
    refine z_sipush C rfl ?_
    refine z_icmp C rfl (fun hc => absurd rfl hc) (fun _ => ?_)
    refine z_iconst C rfl ?_
    refine z_goto C rfl ?_
    refine z_iload C rfl rfl ?_
    refine z_bipush C rfl ?_
    refine z_icmp C rfl (fun hc => absurd rfl hc) (fun _ => ?_)
    refine z_iconst C rfl ?_
    refine z_goto C rfl ?_
    refine z_icmp C rfl (fun hc => absurd rfl hc) (fun _ => ?_)
    refine z_aloadn C rfl rfl ?_
    refine z_bipush C rfl ?_
    refine z_iconst C rfl ?_
    refine z_iconst C rfl ?_
    refine z_iconst C rfl ?_
    refine z_iconst C rfl ?_
    refine r_tr C rfl (by decide) hwg (Nat.le_of_ble_eq_true rfl) ⟨(show a4 + 1 ≤ (oR ω).cells by omega), (show b4 + 6 ≤ (oR ω).slots by omega)⟩  fun got6 a6 b6 ha6 hb6 h6 => ?_
    have g6 : got6 = -1005 := by
      rcases h6 with ⟨w, -⟩ | ⟨-, w⟩
      · exact absurd (ov.symm.trans w) (by decide)
      · exact w
    rw [g6]
    refine z_iconst C rfl ?_
    refine z_icmp C rfl (fun _ => ?_) (fun hc => absurd (show (-1005 : Int32) < Int32.ofInt (Int.ofNat 1) by decide) hc)
    refine z_iconst C rfl ?_
    refine z_iload C rfl rfl ?_
    refine z_icmp C rfl (fun hc => absurd rfl hc) (fun _ => ?_)
    refine z_aloadn C rfl rfl ?_
    refine z_bipush C rfl ?_
    refine z_iconst C rfl ?_
    refine z_iconst C rfl ?_
    refine z_iconst C rfl ?_
    refine z_iconst C rfl ?_
    refine r_th C rfl (by decide) hwg (Nat.le_of_ble_eq_true rfl) ⟨(show a6 + 1 ≤ (oR ω).cells by omega), (show b6 + 6 ≤ (oR ω).slots by omega)⟩  fun got8 a8 b8 ha8 hb8 h8 => ?_
    have g8 : got8 = -1005 := by
      rcases h8 with ⟨w, -⟩ | ⟨-, w⟩
      · exact absurd (ov.symm.trans w) (by decide)
      · exact w
    rw [g8]
    refine z_sipush C rfl ?_
    refine z_icmp C rfl (fun hc => absurd rfl hc) (fun _ => ?_)
    refine z_iconst C rfl ?_
    refine z_goto C rfl ?_
    refine z_iload C rfl rfl ?_
    refine z_icmp C rfl (fun hc => absurd hc (show ¬ Int32.ofInt (Int.ofNat 1) = Int32.ofInt (Int.ofNat 0) by decide)) (fun _ => ?_)
    refine z_aloadn C rfl rfl ?_
    refine z_callv C rfl ⟨by decide, by decide⟩ zS_0 (c_crossings (zKg_of C) g1 hwg) rfl rfl (Nat.le_of_ble_eq_true rfl) ⟨(show a8 + 0 ≤ (oR ω).cells by omega), (show b8 + 0 ≤ (oR ω).slots by omega)⟩ ?_
    rw [ec, ex]
    refine z_lload C rfl rfl ?_
    refine z_lcmp C rfl ?_
    refine z_if C rfl (fun hc => absurd hc (zcmp_ge (by omega))) (fun _ => ?_)
    refine z_aloadn C rfl rfl ?_
    refine z_callv C rfl ⟨by decide, by decide⟩ zS_0 (c_made (zKg_of C) g1 hwg) rfl rfl (Nat.le_of_ble_eq_true rfl) ⟨(show a8 + 0 ≤ (oR ω).cells by omega), (show b8 + 0 ≤ (oR ω).slots by omega)⟩ ?_
    rw [Lg.1.2.2]
    refine z_iload C rfl rfl ?_
    rw [I.1.2.2]
    refine z_icmp C rfl (fun hc => absurd hc (nI_nlt m1 (by omega))) (fun _ => ?_)
    refine z_iload C rfl rfl ?_
    refine z_if C rfl (fun _ => ?_) (fun hc => absurd (show Int32.ofInt (Int.ofNat 0) = (0 : Int32) from rfl) hc)
    refine z_iload C rfl rfl ?_
    refine z_if C rfl (fun _ => ?_) (fun hc => absurd (show (0 : Int32) ≤ 108 by decide) hc)
    refine z_iconst C rfl ?_
    refine z_istore C rfl ?_
    refine z_goto C rfl ?_
    exact z_ll [(12, zi (Int32.ofInt (Int.ofNat 0))), (10, zj was), (4, zi (nI e)), (3, zr (some 854)), (2, zi (nI n)), (1, zr (some 0)), (0, zs)] ⟨rfl, rfl, rfl, rfl, rfl, rfl, rfl, trivial⟩ (kk _ g1 n M1 _ _ d0 hd0 (by omega) (by omega) m1 m2 Lg (fun q => absurd q (by decide)))
  · rw [ov]
    refine z_istore C rfl ?_
    refine z_iload C rfl rfl ?_
    refine z_if C rfl (fun hc => absurd hc (show ¬ (114 : Int32) < 0 by decide)) (fun _ => ?_)
    refine z_iload C rfl rfl ?_
    refine z_bipush C rfl ?_
    refine z_icmp C rfl (fun _ => ?_) (fun hc => absurd (show ¬ (114 : Int32) = Int32.ofInt (Int.ofNat 120) by decide) hc)
    refine z_iconst C rfl ?_
    refine z_istore C rfl ?_
    refine z_iload C rfl rfl ?_
    refine z_bipush C rfl ?_
    refine z_icmp C rfl (fun _ => ?_) (fun hc => absurd rfl hc)
    refine z_aloadn C rfl rfl ?_
    refine z_iconst C rfl ?_
    refine z_iconst C rfl ?_
    refine z_iconst C rfl ?_
    refine z_iconst C rfl ?_
    refine z_iconst C rfl ?_
    refine r_resK C rfl (by decide) hwg (Nat.le_of_ble_eq_true rfl) ⟨(show a1 + 1 ≤ (oR ω).cells by omega), (show b1 + 6 ≤ (oR ω).slots by omega)⟩  fun got4 a4 b4 ha4 hb4 h4 => ?_
    have g4 : ¬ got4 = -1005 := fun q => absurd (h4.mp q) (by unfold zhasR; rw [ov]; decide)
    refine z_sipush C rfl ?_
    refine z_icmp C rfl (fun _ => ?_) (fun hc => absurd g4 hc)
    refine z_iconst C rfl ?_
    refine z_iload C rfl rfl ?_
    refine z_bipush C rfl ?_
    refine z_icmp C rfl (fun _ => ?_) (fun hc => absurd (show ¬ (114 : Int32) = Int32.ofInt (Int.ofNat 108) by decide) hc)
    refine z_iconst C rfl ?_
    refine z_icmp C rfl (fun hc => absurd rfl hc) (fun _ => ?_)
    refine z_aloadn C rfl rfl ?_
    refine z_bipush C rfl ?_
    refine z_iconst C rfl ?_
    refine z_iconst C rfl ?_
    refine z_iconst C rfl ?_
    refine z_iconst C rfl ?_
    refine r_tr C rfl (by decide) hwg (Nat.le_of_ble_eq_true rfl) ⟨(show a4 + 1 ≤ (oR ω).cells by omega), (show b4 + 6 ≤ (oR ω).slots by omega)⟩  fun got6 a6 b6 ha6 hb6 h6 => ?_
    have g6 : got6 = -1005 := by
      rcases h6 with ⟨w, -⟩ | ⟨-, w⟩
      · exact absurd (ov.symm.trans w) (by decide)
      · exact w
    rw [g6]
    refine z_iconst C rfl ?_
    refine z_icmp C rfl (fun _ => ?_) (fun hc => absurd (show (-1005 : Int32) < Int32.ofInt (Int.ofNat 1) by decide) hc)
    refine z_iconst C rfl ?_
    refine z_iload C rfl rfl ?_
    refine z_icmp C rfl (fun hc => absurd rfl hc) (fun _ => ?_)
    refine z_aloadn C rfl rfl ?_
    refine z_bipush C rfl ?_
    refine z_iconst C rfl ?_
    refine z_iconst C rfl ?_
    refine z_iconst C rfl ?_
    refine z_iconst C rfl ?_
    refine r_th C rfl (by decide) hwg (Nat.le_of_ble_eq_true rfl) ⟨(show a6 + 1 ≤ (oR ω).cells by omega), (show b6 + 6 ≤ (oR ω).slots by omega)⟩  fun got8 a8 b8 ha8 hb8 h8 => ?_
    have g8 : got8 = -1005 := by
      rcases h8 with ⟨w, -⟩ | ⟨-, w⟩
      · exact absurd (ov.symm.trans w) (by decide)
      · exact w
    rw [g8]
    refine z_sipush C rfl ?_
    refine z_icmp C rfl (fun hc => absurd rfl hc) (fun _ => ?_)
    refine z_iconst C rfl ?_
    refine z_goto C rfl ?_
    refine z_iload C rfl rfl ?_
    refine z_icmp C rfl (fun hc => absurd hc (show ¬ Int32.ofInt (Int.ofNat 1) = Int32.ofInt (Int.ofNat 0) by decide)) (fun _ => ?_)
    refine z_aloadn C rfl rfl ?_
    refine z_callv C rfl ⟨by decide, by decide⟩ zS_0 (c_crossings (zKg_of C) g1 hwg) rfl rfl (Nat.le_of_ble_eq_true rfl) ⟨(show a8 + 0 ≤ (oR ω).cells by omega), (show b8 + 0 ≤ (oR ω).slots by omega)⟩ ?_
    rw [ec, ex]
    refine z_lload C rfl rfl ?_
    refine z_lcmp C rfl ?_
    refine z_if C rfl (fun hc => absurd hc (zcmp_ge (by omega))) (fun _ => ?_)
    refine z_aloadn C rfl rfl ?_
    refine z_callv C rfl ⟨by decide, by decide⟩ zS_0 (c_made (zKg_of C) g1 hwg) rfl rfl (Nat.le_of_ble_eq_true rfl) ⟨(show a8 + 0 ≤ (oR ω).cells by omega), (show b8 + 0 ≤ (oR ω).slots by omega)⟩ ?_
    rw [Lg.1.2.2]
    refine z_iload C rfl rfl ?_
    rw [I.1.2.2]
    refine z_icmp C rfl (fun hc => absurd hc (nI_nlt m1 (by omega))) (fun _ => ?_)
    refine z_iload C rfl rfl ?_
    refine z_if C rfl (fun _ => ?_) (fun hc => absurd (show Int32.ofInt (Int.ofNat 0) = (0 : Int32) from rfl) hc)
    refine z_iload C rfl rfl ?_
    refine z_if C rfl (fun _ => ?_) (fun hc => absurd (show (0 : Int32) ≤ 114 by decide) hc)
    refine z_iconst C rfl ?_
    refine z_istore C rfl ?_
    refine z_goto C rfl ?_
    exact z_ll [(12, zi (Int32.ofInt (Int.ofNat 0))), (10, zj was), (4, zi (nI e)), (3, zr (some 854)), (2, zi (nI n)), (1, zr (some 0)), (0, zs)] ⟨rfl, rfl, rfl, rfl, rfl, rfl, rfl, trivial⟩ (kk _ g1 n M1 _ _ d0 hd0 (by omega) (by omega) m1 m2 Lg (fun q => absurd q (by decide)))
  · rw [ov]
    refine z_istore C rfl ?_
    refine z_iload C rfl rfl ?_
    refine z_if C rfl (fun hc => absurd hc (show ¬ (120 : Int32) < 0 by decide)) (fun _ => ?_)
    refine z_iload C rfl rfl ?_
    refine z_bipush C rfl ?_
    refine z_icmp C rfl (fun hc => absurd rfl hc) (fun _ => ?_)
    refine z_iconst C rfl ?_
    refine z_goto C rfl ?_
    refine z_istore C rfl ?_
    refine z_iload C rfl rfl ?_
    refine z_bipush C rfl ?_
    refine z_icmp C rfl (fun hc => absurd hc (show ¬ (120 : Int32) = Int32.ofInt (Int.ofNat 114) by decide)) (fun _ => ?_)
    refine z_iload C rfl rfl ?_
    refine z_bipush C rfl ?_
    refine z_icmp C rfl (fun _ => ?_) (fun hc => absurd rfl hc)
    refine z_aloadn C rfl rfl ?_
    refine z_iconst C rfl ?_
    refine z_iconst C rfl ?_
    refine z_iconst C rfl ?_
    refine z_iconst C rfl ?_
    refine z_iconst C rfl ?_
    refine r_resK C rfl (by decide) hwg (Nat.le_of_ble_eq_true rfl) ⟨(show a1 + 1 ≤ (oR ω).cells by omega), (show b1 + 6 ≤ (oR ω).slots by omega)⟩  fun got4 a4 b4 ha4 hb4 h4 => ?_
    have g4 : ¬ got4 = -1005 := fun q => absurd (h4.mp q) (by unfold zhasR; rw [ov]; decide)
    refine z_sipush C rfl ?_
    refine z_icmp C rfl (fun _ => ?_) (fun hc => absurd g4 hc)
    refine z_iconst C rfl ?_
    refine z_iload C rfl rfl ?_
    refine z_bipush C rfl ?_
    refine z_icmp C rfl (fun _ => ?_) (fun hc => absurd (show ¬ (120 : Int32) = Int32.ofInt (Int.ofNat 108) by decide) hc)
    refine z_iconst C rfl ?_
    refine z_icmp C rfl (fun hc => absurd rfl hc) (fun _ => ?_)
    refine z_aloadn C rfl rfl ?_
    refine z_bipush C rfl ?_
    refine z_iconst C rfl ?_
    refine z_iconst C rfl ?_
    refine z_iconst C rfl ?_
    refine z_iconst C rfl ?_
    refine r_tr C rfl (by decide) hwg (Nat.le_of_ble_eq_true rfl) ⟨(show a4 + 1 ≤ (oR ω).cells by omega), (show b4 + 6 ≤ (oR ω).slots by omega)⟩  fun got6 a6 b6 ha6 hb6 h6 => ?_
    have g6 : got6 = nI t := by
      rcases h6 with ⟨-, w⟩ | ⟨w, -⟩
      · exact w.trans et
      · exact absurd ov w
    rw [g6]
    refine z_iconst C rfl ?_
    refine z_icmp C rfl (fun hc => absurd hc (nI_nlt (b := 1) t1 (by omega))) (fun _ => ?_)
    refine z_iconst C rfl ?_
    refine z_goto C rfl ?_
    refine z_iload C rfl rfl ?_
    refine z_icmp C rfl (fun hc => absurd rfl hc) (fun _ => ?_)
    refine z_aloadn C rfl rfl ?_
    refine z_bipush C rfl ?_
    refine z_iconst C rfl ?_
    refine z_iconst C rfl ?_
    refine z_iconst C rfl ?_
    refine z_iconst C rfl ?_
    refine r_th C rfl (by decide) hwg (Nat.le_of_ble_eq_true rfl) ⟨(show a6 + 1 ≤ (oR ω).cells by omega), (show b6 + 6 ≤ (oR ω).slots by omega)⟩  fun got8 a8 b8 ha8 hb8 h8 => ?_
    have g8 : ¬ got8 = -1005 := by
      rcases h8 with ⟨-, w⟩ | ⟨w, -⟩
      · rw [w]; exact Lg.1.1.2.2.1.2.2
      · exact absurd ov w
    refine z_sipush C rfl ?_
    refine z_icmp C rfl (fun _ => ?_) (fun hc => absurd g8 hc)
    refine z_iconst C rfl ?_
    refine z_iload C rfl rfl ?_
    refine z_icmp C rfl (fun hc => absurd hc (show ¬ Int32.ofInt (Int.ofNat 0) = Int32.ofInt (Int.ofNat 1) by decide)) (fun _ => ?_)
    refine z_aloadn C rfl rfl ?_
    refine z_callv C rfl ⟨by decide, by decide⟩ zS_0 (c_crossings (zKg_of C) g1 hwg) rfl rfl (Nat.le_of_ble_eq_true rfl) ⟨(show a8 + 0 ≤ (oR ω).cells by omega), (show b8 + 0 ≤ (oR ω).slots by omega)⟩ ?_
    rw [ec, ex]
    refine z_lload C rfl rfl ?_
    refine z_lcmp C rfl ?_
    refine z_if C rfl (fun hc => absurd hc (zcmp_ge (by omega))) (fun _ => ?_)
    refine z_aloadn C rfl rfl ?_
    refine z_callv C rfl ⟨by decide, by decide⟩ zS_0 (c_made (zKg_of C) g1 hwg) rfl rfl (Nat.le_of_ble_eq_true rfl) ⟨(show a8 + 0 ≤ (oR ω).cells by omega), (show b8 + 0 ≤ (oR ω).slots by omega)⟩ ?_
    rw [Lg.1.2.2]
    refine z_iload C rfl rfl ?_
    rw [I.1.2.2]
    refine z_icmp C rfl (fun hc => absurd hc (nI_nlt m1 (by omega))) (fun _ => ?_)
    refine z_iload C rfl rfl ?_
    refine z_if C rfl (fun hc => absurd hc (show ¬ Int32.ofInt (Int.ofNat 1) = 0 by decide)) (fun _ => ?_)
    refine z_aloadn C rfl rfl ?_
    refine z_bipush C rfl ?_
    refine z_aloadn C rfl rfl ?_
    refine z_bipush C rfl ?_
    refine z_iconst C rfl ?_
    refine z_iconst C rfl ?_
    refine z_iconst C rfl ?_
    refine z_iconst C rfl ?_
    refine r_tr C rfl (by decide) hwg (Nat.le_of_ble_eq_true rfl) ⟨(show a8 + 1 ≤ (oR ω).cells by omega), (show b8 + 6 ≤ (oR ω).slots by omega)⟩  fun got7 a7 b7 ha7 hb7 h7 => ?_
    have g7 : got7 = nI t := by
      rcases h7 with ⟨-, w⟩ | ⟨w, -⟩
      · exact w.trans et
      · exact absurd ov w
    rw [g7]
    refine z_iconst C rfl ?_
    refine z_iconst C rfl ?_
    refine z_iconst C rfl ?_
    refine r_trA C rfl (by decide) hwg (Nat.le_of_ble_eq_true rfl) ⟨(show a7 + 1 ≤ (oR ω).cells by omega), (show b7 + 6 ≤ (oR ω).slots by omega)⟩ ov et t24 ?_
    refine z_sipush C rfl ?_
    refine z_icmp C rfl (fun _ => ?_) (fun hc => absurd rfl hc)
    refine z_iload C rfl rfl ?_
    refine z_if C rfl (fun _ => ?_) (fun hc => absurd (show (0 : Int32) ≤ 120 by decide) hc)
    refine z_iconst C rfl ?_
    refine z_istore C rfl ?_
    refine z_goto C rfl ?_
    exact z_ll [(12, zi (Int32.ofInt (Int.ofNat 0))), (10, zj was), (4, zi (nI e)), (3, zr (some 854)), (2, zi (nI n)), (1, zr (some 0)), (0, zs)] ⟨rfl, rfl, rfl, rfl, rfl, rfl, rfl, trivial⟩ (kk _ g1 n M1 _ _ d0 hd0 (by omega) (by omega) m1 m2 Lg (fun q => absurd q (by decide)))
set_option maxHeartbeats 400000 in
set_option maxRecDepth 20000 in
theorem ev_end {ω : zO} (C0 : zX ω 131) {h : zH} {a b e n M X : Nat} {got : Int32} {was : Int64} {d0 : Drawn} (hd0 : (oS ω).drawn.sameBut d0 lw_cs) (hM : M ≤ 900000) (I : zLi h M n X) (hwas : got < 0 → zst h M = was) (hca : a + (24 + 2 * M) ≤ (oR ω).cells ∧ b + 6 * (24 + 2 * M) ≤ (oR ω).slots)
    (kk : ∀ (g : zH) (a1 b1 : Nat) (d1 : Drawn), (oS ω).drawn.sameBut d1 lw_cs → a1 ≤ a + (24 + 2 * M) → b1 ≤ b + 6 * (24 + 2 * M) → zLi g M n X → ZG (zod ω d1) 131 909 [(4, zi (nI e)), (3, zr (some 854)), (2, zi (nI n)), (1, zr (some 0)), (0, zs)] [] g a1 b1) : ZG (zod ω d0) 131 885 [(12, zi got), (10, zj was), (4, zi (nI e)), (3, zr (some 854)), (2, zi (nI n)), (1, zr (some 0)), (0, zs)] [] h a b := by
  obtain ⟨hca1, hca2⟩ := hca
  have k900 : ∀ (g1 : zH) (a1 b1 : Nat) (d1 : Drawn), (oS ω).drawn.sameBut d1 lw_cs → a1 ≤ a + (24 + 2 * M) → b1 ≤ b + 6 * (24 + 2 * M) → zLi g1 M n X → ZG (zod ω d1) 131 900 [(4, zi (nI e)), (3, zr (some 854)), (2, zi (nI n)), (1, zr (some 0)), (0, zs)] [] g1 a1 b1 := by
    intro g1 a1 b1 d1 hd1 ha1 hb1 Ig
    have C := zX_od C0 d1
    refine z_aloadn C rfl rfl ?_
    refine z_callsD C0 hd1 rfl ⟨by decide, by decide, by decide⟩ (d_sound (zKg_of C) g1 Ig.1.1.1 Ig.1.1.2.2.2 Ig.1.2.1) rfl rfl (Nat.le_of_ble_eq_true rfl) ⟨(show a1 + 0 ≤ (oR ω).cells by omega), (show b1 + 0 ≤ (oR ω).slots by omega)⟩ fun v5 g5 d5 q5 hD5 => ?_
    obtain ⟨hv5, e5⟩ := q5
    rw [hv5]
    have C := zX_od C0 d5
    refine z_if C rfl (fun _ => ?_) (fun hc => absurd (show ¬ (1 : Int32) = 0 by decide) hc)
    exact z_ll [(4, zi (nI e)), (3, zr (some 854)), (2, zi (nI n)), (1, zr (some 0)), (0, zs)] ⟨rfl, rfl, rfl, rfl, rfl, trivial⟩ (kk g5 a1 b1 d5 hD5 (by omega) (by omega) (zLi_TE e5 Ig))
  have C := zX_od C0 d0
  refine z_iload C rfl rfl ?_
  refine z_if C rfl (fun hc1 => ?_) (fun hc1 => ?_)
  · skip
    skip
    first | exact z_ll [(4, zi (nI e)), (3, zr (some 854)), (2, zi (nI n)), (1, zr (some 0)), (0, zs)] ⟨rfl, rfl, rfl, rfl, rfl, trivial⟩ (k900 g5 _ _ d5 hD5 (by omega) (by omega) (zLi_TE e5 I)) | exact z_ll [(4, zi (nI e)), (3, zr (some 854)), (2, zi (nI n)), (1, zr (some 0)), (0, zs)] ⟨rfl, rfl, rfl, rfl, rfl, trivial⟩ (k900 h _ _ d0 hd0 (by omega) (by omega) I)
  · skip
    skip
    refine z_aloadn C rfl rfl ?_
    refine z_callsD C0 hd0 rfl ⟨by decide, by decide, by decide⟩ (d_state (zKg_of C) (M := M) (by omega) h I.1.1.1 I.1.2.2) rfl rfl (Nat.le_of_ble_eq_true rfl) ⟨(show a + (24 + 2 * M) ≤ (oR ω).cells by omega), (show b + 6 * (24 + 2 * M) ≤ (oR ω).slots by omega)⟩ fun v5 g5 d5 q5 hD5 => ?_
    obtain ⟨hv5, e5⟩ := q5
    rw [hv5, hwas (Int32.not_le.mp hc1)]
    have C := zX_od C0 d5
    refine z_lload C rfl rfl ?_
    refine z_lcmp C rfl ?_
    rw [zcmp_s]
    refine z_if C rfl (fun hc => absurd rfl hc) (fun _ => ?_)
    first | exact z_ll [(4, zi (nI e)), (3, zr (some 854)), (2, zi (nI n)), (1, zr (some 0)), (0, zs)] ⟨rfl, rfl, rfl, rfl, rfl, trivial⟩ (k900 g5 _ _ d5 hD5 (by omega) (by omega) (zLi_TE e5 I)) | exact z_ll [(4, zi (nI e)), (3, zr (some 854)), (2, zi (nI n)), (1, zr (some 0)), (0, zs)] ⟨rfl, rfl, rfl, rfl, rfl, trivial⟩ (k900 h _ _ d0 hd0 (by omega) (by omega) I)
