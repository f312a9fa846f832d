/-! the law's loop -/
def zA : Nat → Nat
  | 0 => 0
  | e + 1 => zA e + 200 + 360 * (e - 24)
theorem zA_mono : ∀ d e, zA e ≤ zA (e + d)
  | 0, e => Nat.le_refl _
  | d + 1, e => by
    have a := zA_mono d e
    have b : zA (e + (d + 1)) = zA (e + d) + 200 + 360 * (e + d - 24) := rfl
    omega
theorem zA_76 {e : Nat} (h : e < 76) : zA e + 200 + 360 * (e - 24) ≤ zA 76 := by
  have a := zA_mono (76 - (e + 1)) (e + 1)
  rw [show e + 1 + (76 - (e + 1)) = 76 by omega] at a
  exact a
theorem zm2 {e : Nat} : Int32.ofInt (Int.ofNat 2) * nI e = nI (2 * e) := (Int32.ofNat_mul 2 e).symm
set_option maxHeartbeats 400000 in
set_option maxRecDepth 20000 in
theorem l_disp {ω : zO} (C0 : zX ω 131) {h : zH} {a b e n M X f L : Nat} {hh gg sort : Int32} {was : Int64} {d0 : Drawn} (hd0 : (oS ω).drawn.sameBut d0 lw_cs) (hM : M ≤ 900000) (hX : X ≤ 1000000000) (I : zLi h M n X) (hL : L ≤ 3) (hf : f ≤ n) (hwas : was = zst h M) (hca : a + 40 + 4 * M ≤ (oR ω).cells ∧ b + 6 * (40 + 4 * M) ≤ (oR ω).slots) (hsort : 24 ≤ e ∨ sort = 0 ∨ sort = 2) (k0 : ∀ (got : Int32) (g : zH) (n' M' a1 b1 : Nat) (d1 : Drawn), (oS ω).drawn.sameBut d1 lw_cs → a1 ≤ a + (30 + 2 * M) → b1 ≤ b + 6 * (30 + 2 * M) → M ≤ M' → M' ≤ M + 0 → zLi g M' n' (X + 14000) → (got < 0 → zst g M' = was) → ZG (zod ω d1) 131 885 [(12, zi got), (10, zj was), (4, zi (nI e)), (3, zr (some 854)), (2, zi (nI n')), (1, zr (some 0)), (0, zs)] [] g a1 b1) (k60 : 24 ≤ e → ∀ (got : Int32) (g : zH) (n' M' a1 b1 : Nat) (d1 : Drawn), (oS ω).drawn.sameBut d1 lw_cs → a1 ≤ a + (30 + 2 * M) → b1 ≤ b + 6 * (30 + 2 * M) → M ≤ M' → M' ≤ M + 60 → zLi g M' n' (X + 14000) → (got < 0 → zst g M' = was) → ZG (zod ω d1) 131 885 [(12, zi got), (10, zj was), (4, zi (nI e)), (3, zr (some 854)), (2, zi (nI n')), (1, zr (some 0)), (0, zs)] [] g a1 b1) : ZG (zod ω d0) 131 120 [(12, zi (Int32.ofInt (Int.ofNat 0))), (10, zj was), (9, zi sort), (8, zi (nI f)), (7, zi (nI L)), (6, zi hh), (5, zi gg), (4, zi (nI e)), (3, zr (some 854)), (2, zi (nI n)), (1, zr (some 0)), (0, zs)] [] h a b := by
  have C := zX_od C0 d0
  obtain ⟨hca1, hca2⟩ := hca
  refine z_iload C rfl rfl ?_
  refine z_if C rfl (fun hc1 => ?_) (fun hc1 => ?_)
  · skip
    skip
    refine z_iload C rfl rfl ?_
    refine z_bipush C rfl ?_
    refine z_icmp C rfl (fun hc2 => ?_) (fun hc2 => ?_)
    · skip
      skip
      have h24 : 24 ≤ e := by
        rcases hsort with w | w | w
        · exact w
        · rw [w] at hc2; exact absurd hc2 (show ¬ Int32.ofInt (Int.ofNat 14) ≤ (0 : Int32) by decide)
        · rw [w] at hc2; exact absurd hc2 (show ¬ Int32.ofInt (Int.ofNat 14) ≤ (2 : Int32) by decide)
      have k60 := k60 h24
      refine z_iload C rfl rfl ?_
      refine z_bipush C rfl ?_
      refine z_icmp C rfl (fun hc3 => ?_) (fun hc3 => ?_)
      · skip
        skip
        refine z_iload C rfl rfl ?_
        refine z_bipush C rfl ?_
        refine z_icmp C rfl (fun hc4 => ?_) (fun hc4 => ?_)
        · skip
          skip
          refine z_iload C rfl rfl ?_
          refine z_bipush C rfl ?_
          refine z_icmp C rfl (fun hc5 => ?_) (fun hc5 => ?_)
          · skip
            skip
            refine z_iload C rfl rfl ?_
            refine z_bipush C rfl ?_
            refine z_icmp C rfl (fun hc6 => ?_) (fun hc6 => ?_)
            · skip
              skip
              refine z_iload C rfl rfl ?_
              refine z_bipush C rfl ?_
              refine z_icmp C rfl (fun hc7 => ?_) (fun hc7 => ?_)
              · skip
                skip
                refine z_iload C rfl rfl ?_
                refine z_bipush C rfl ?_
                refine z_icmp C rfl (fun hc8 => ?_) (fun hc8 => ?_)
                · skip
                  skip
                  refine z_iload C rfl rfl ?_
                  refine z_bipush C rfl ?_
                  refine z_icmp C rfl (fun hc9 => ?_) (fun hc9 => ?_)
                  · skip
                    skip
                    exact ev_coll C0 hd0 (by omega) I hL hf hwas ⟨by omega, by omega⟩ k60
                  · skip
                    skip
                    exact ev_get C0 hd0 (by omega) I hL hf hwas ⟨by omega, by omega⟩ k60
                · skip
                  skip
                  exact ev_put C0 hd0 (by omega) I hL hf hwas ⟨by omega, by omega⟩ k60
              · skip
                skip
                exact ev_pass C0 hd0 (by omega) I hL hf hwas ⟨by omega, by omega⟩ k60
            · skip
              skip
              exact ev_make C0 hd0 (by omega) I hL hf hwas ⟨by omega, by omega⟩ k60
          · skip
            skip
            exact ev_set C0 hd0 (by omega) I hL hf hwas ⟨by omega, by omega⟩ k60
        · skip
          skip
          exact ev_run C0 hd0 (by omega) (by omega) I hL hf hwas ⟨by omega, by omega⟩ k60
      · skip
        skip
        exact ev_guard C0 hd0 (by omega) I hL hf hwas ⟨by omega, by omega⟩ k0
    · skip
      skip
      exact ev_code C0 hd0 (by omega) I hL hf hwas ⟨by omega, by omega⟩ k0
  · skip
    skip
    exact ev_addF C0 hd0 (by omega) I hL hf hwas ⟨by omega, by omega⟩ k0
theorem zge24 {e : Nat} (he : e < 1000) (h : xCmp .ge (nI e) (Int32.ofInt (Int.ofNat 24))) : 24 ≤ e := by
  by_cases q : 24 ≤ e
  · exact q
  · exact absurd h (nI_ge (a := e) (b := 24) (by omega) (by decide))
set_option maxHeartbeats 400000 in
set_option maxRecDepth 20000 in
theorem l_event {ω : zO} (C0 : zX ω 131) (hN : kN (oK ω) < 2 ^ 31) {h : zH} {a b e n M : Nat} {d0 : Drawn} (hd0 : (oS ω).drawn.sameBut d0 lw_cs) (he : e < 76) (I : zLi h M n (14000 * e)) (hM : M ≤ 60 * (e - 24)) (hca : a + 200 + 360 * (e - 24) ≤ (oR ω).cells ∧ b + 6 * (200 + 360 * (e - 24)) ≤ (oR ω).slots)
    (kk : ∀ (g : zH) (n' M' a1 b1 : Nat) (d1 : Drawn), (oS ω).drawn.sameBut d1 lw_cs → a1 ≤ a + 200 + 360 * (e - 24) → b1 ≤ b + 6 * (200 + 360 * (e - 24)) → M' ≤ 60 * (e + 1 - 24) → zLi g M' n' (14000 * (e + 1)) → ZG (zod ω d1) 131 909 [(4, zi (nI e)), (3, zr (some 854)), (2, zi (nI n')), (1, zr (some 0)), (0, zs)] [] g a1 b1) : ZG (zod ω d0) 131 25 [(4, zi (nI e)), (3, zr (some 854)), (2, zi (nI n)), (1, zr (some 0)), (0, zs)] [] h a b := by
  have C := zX_od C0 d0
  obtain ⟨hca1, hca2⟩ := hca
  have n9 := I.2.2.1
  have k885 : ∀ (got : Int32) (g : zH) (n' M' a1 b1 : Nat) (d1 : Drawn), (oS ω).drawn.sameBut d1 lw_cs → a1 ≤ a + (54 + 4 * M) → b1 ≤ b + 6 * (54 + 4 * M) → M ≤ M' → M' ≤ 60 * (e + 1 - 24) → zLi g M' n' (14000 * e + 14000) → (got < 0 → zst g M' = zst h M) → ZG (zod ω d1) 131 885 [(12, zi got), (10, zj (zst h M)), (4, zi (nI e)), (3, zr (some 854)), (2, zi (nI n')), (1, zr (some 0)), (0, zs)] [] g a1 b1 := by
    intro got g n' M' a1 b1 d1 hd1 ha1 hb1 h1 h2 Ig hw
    exact ev_end C0 hd1 (by omega) Ig hw ⟨by omega, by omega⟩ (fun g2 a2 b2 d2 hd2 ha2 hb2 I2 => kk g2 n' M' a2 b2 d2 hd2 (by omega) (by omega) h2 (by rw [show 14000 * (e + 1) = 14000 * e + 14000 by omega]; exact I2))
  have k111 : ∀ {gg hh : Int32} (f : Nat) (sort : Int32) (L : Nat), L ≤ 3 → f ≤ n → (24 ≤ e ∨ sort = 0 ∨ sort = 2) → ZG (zod ω d0) 131 111 [(9, zi sort), (8, zi (nI f)), (7, zi (nI L)), (6, zi hh), (5, zi gg), (4, zi (nI e)), (3, zr (some 854)), (2, zi (nI n)), (1, zr (some 0)), (0, zs)] [] h a b := by
    intro gg hh f sort L hL hf hsort
    refine z_aloadn C rfl rfl ?_
    refine z_callsD C0 hd0 rfl ⟨by decide, by decide, by decide⟩ (d_state (zKg_of C) (M := M) (by omega) h I.1.1.1 I.1.2.2) rfl rfl (Nat.le_of_ble_eq_true rfl) ⟨(show a + (24 + 2 * M) ≤ (oR ω).cells by omega), (show b + 6 * (24 + 2 * M) ≤ (oR ω).slots by omega)⟩ fun v5 g5 d5 q5 hD5 => ?_
    obtain ⟨hv5, e5⟩ := q5
    rw [hv5]
    have C := zX_od C0 d5
    refine z_lstore C rfl ?_
    refine z_iconst C rfl ?_
    refine z_istore C rfl ?_
    exact z_ll [(12, zi (Int32.ofInt (Int.ofNat 0))), (10, zj (zst h M)), (9, zi sort), (8, zi (nI f)), (7, zi (nI L)), (6, zi hh), (5, zi gg), (4, zi (nI e)), (3, zr (some 854)), (2, zi (nI n)), (1, zr (some 0)), (0, zs)] ⟨rfl, rfl, rfl, rfl, rfl, rfl, rfl, rfl, rfl, rfl, rfl, rfl, trivial⟩ (l_disp C0 hD5 (by omega) (by omega) (zLi_TE e5 I) hL hf (zTE_st e5 I.1.1.1.1).symm ⟨by omega, by omega⟩ hsort (fun got g n' M' a1 b1 d1 x1 x2 x3 x4 x5 x6 x7 => k885 got g n' M' a1 b1 d1 x1 (by omega) (by omega) (by omega) (by omega) x6 x7) (fun h24 got g n' M' a1 b1 d1 x1 x2 x3 x4 x5 x6 x7 => k885 got g n' M' a1 b1 d1 x1 (by omega) (by omega) (by omega) (by omega) x6 x7))
  have k71 : ∀ (gg hh : Int32) (L : Nat), L ≤ 3 → ZG (zod ω d0) 131 71 [(7, zi (nI L)), (6, zi hh), (5, zi gg), (4, zi (nI e)), (3, zr (some 854)), (2, zi (nI n)), (1, zr (some 0)), (0, zs)] [] h a b := by
    intro gg hh L hL
    refine z_iload C rfl rfl ?_
    refine z_iconst C rfl ?_
    refine z_ishr C rfl ?_
    refine z_iloadn C rfl rfl ?_
    refine z_iconst C rfl ?_
    refine z_iadd C rfl ?_
    rw [show nI n + Int32.ofInt (Int.ofNat 1) = nI (n + 1) from nI_1 n]
    refine z_callsq C rfl ⟨by decide, by decide, by decide⟩ (q_low (zKg_of C) (n := n + 1) (by omega) (by omega) _) rfl rfl (Nat.le_of_ble_eq_true rfl) ⟨(show a + 0 ≤ (oR ω).cells by omega), (show b + 0 ≤ (oR ω).slots by omega)⟩ fun v9 g9 q9 => ?_
    obtain ⟨hg9, f, hf9, hv9⟩ := q9
    rw [hg9, hv9]
    refine z_istore C rfl ?_
    refine z_iload C rfl rfl ?_
    refine z_iconst C rfl ?_
    refine z_icmp C rfl (fun hc1 => ?_) (fun hc1 => ?_)
    · skip
      skip
      refine z_iload C rfl rfl ?_
      refine z_bipush C rfl ?_
      refine z_icmp C rfl (fun hc2 => ?_) (fun hc2 => ?_)
      · skip
        skip
        refine z_iload C rfl rfl ?_
        refine z_bipush C rfl ?_
        refine z_iand C rfl ?_
        first | exact z_istore C rfl (z_ll [(9, zi _), (8, zi (nI f)), (7, zi (nI L)), (6, zi hh), (5, zi gg), (4, zi (nI e)), (3, zr (some 854)), (2, zi (nI n)), (1, zr (some 0)), (0, zs)] ⟨rfl, rfl, rfl, rfl, rfl, rfl, rfl, rfl, rfl, rfl, trivial⟩ (k111 f _ L hL (by omega) (Or.inl (by omega)))) | exact z_istore C rfl (z_ll [(9, zi _), (8, zi (nI f)), (7, zi (nI L)), (6, zi hh), (5, zi gg), (4, zi (nI e)), (3, zr (some 854)), (2, zi (nI n)), (1, zr (some 0)), (0, zs)] ⟨rfl, rfl, rfl, rfl, rfl, rfl, rfl, rfl, rfl, rfl, trivial⟩ (k111 f _ L hL (by omega) (Or.inr (Or.inl rfl)))) | exact z_istore C rfl (z_ll [(9, zi _), (8, zi (nI f)), (7, zi (nI L)), (6, zi hh), (5, zi gg), (4, zi (nI e)), (3, zr (some 854)), (2, zi (nI n)), (1, zr (some 0)), (0, zs)] ⟨rfl, rfl, rfl, rfl, rfl, rfl, rfl, rfl, rfl, rfl, trivial⟩ (k111 f _ L hL (by omega) (Or.inr (Or.inr rfl)))) | exact z_istore C rfl (z_ll [(9, zi _), (8, zi (nI f)), (7, zi (nI L)), (6, zi hh), (5, zi gg), (4, zi (nI e)), (3, zr (some 854)), (2, zi (nI n)), (1, zr (some 0)), (0, zs)] ⟨rfl, rfl, rfl, rfl, rfl, rfl, rfl, rfl, rfl, rfl, trivial⟩ (k111 f _ L hL (by omega) (Or.inl (zge24 (by omega) hc2))))
      · skip
        skip
        refine z_iconst C rfl ?_
        refine z_goto C rfl ?_
        first | exact z_istore C rfl (z_ll [(9, zi _), (8, zi (nI f)), (7, zi (nI L)), (6, zi hh), (5, zi gg), (4, zi (nI e)), (3, zr (some 854)), (2, zi (nI n)), (1, zr (some 0)), (0, zs)] ⟨rfl, rfl, rfl, rfl, rfl, rfl, rfl, rfl, rfl, rfl, trivial⟩ (k111 f _ L hL (by omega) (Or.inl (by omega)))) | exact z_istore C rfl (z_ll [(9, zi _), (8, zi (nI f)), (7, zi (nI L)), (6, zi hh), (5, zi gg), (4, zi (nI e)), (3, zr (some 854)), (2, zi (nI n)), (1, zr (some 0)), (0, zs)] ⟨rfl, rfl, rfl, rfl, rfl, rfl, rfl, rfl, rfl, rfl, trivial⟩ (k111 f _ L hL (by omega) (Or.inr (Or.inl rfl)))) | exact z_istore C rfl (z_ll [(9, zi _), (8, zi (nI f)), (7, zi (nI L)), (6, zi hh), (5, zi gg), (4, zi (nI e)), (3, zr (some 854)), (2, zi (nI n)), (1, zr (some 0)), (0, zs)] ⟨rfl, rfl, rfl, rfl, rfl, rfl, rfl, rfl, rfl, rfl, trivial⟩ (k111 f _ L hL (by omega) (Or.inr (Or.inr rfl)))) | exact z_istore C rfl (z_ll [(9, zi _), (8, zi (nI f)), (7, zi (nI L)), (6, zi hh), (5, zi gg), (4, zi (nI e)), (3, zr (some 854)), (2, zi (nI n)), (1, zr (some 0)), (0, zs)] ⟨rfl, rfl, rfl, rfl, rfl, rfl, rfl, rfl, rfl, rfl, trivial⟩ (k111 f _ L hL (by omega) (Or.inl (zge24 (by omega) hc2))))
    · skip
      skip
      refine z_iconst C rfl ?_
      refine z_goto C rfl ?_
      first | exact z_istore C rfl (z_ll [(9, zi _), (8, zi (nI f)), (7, zi (nI L)), (6, zi hh), (5, zi gg), (4, zi (nI e)), (3, zr (some 854)), (2, zi (nI n)), (1, zr (some 0)), (0, zs)] ⟨rfl, rfl, rfl, rfl, rfl, rfl, rfl, rfl, rfl, rfl, trivial⟩ (k111 f _ L hL (by omega) (Or.inl (by omega)))) | exact z_istore C rfl (z_ll [(9, zi _), (8, zi (nI f)), (7, zi (nI L)), (6, zi hh), (5, zi gg), (4, zi (nI e)), (3, zr (some 854)), (2, zi (nI n)), (1, zr (some 0)), (0, zs)] ⟨rfl, rfl, rfl, rfl, rfl, rfl, rfl, rfl, rfl, rfl, trivial⟩ (k111 f _ L hL (by omega) (Or.inr (Or.inl rfl)))) | exact z_istore C rfl (z_ll [(9, zi _), (8, zi (nI f)), (7, zi (nI L)), (6, zi hh), (5, zi gg), (4, zi (nI e)), (3, zr (some 854)), (2, zi (nI n)), (1, zr (some 0)), (0, zs)] ⟨rfl, rfl, rfl, rfl, rfl, rfl, rfl, rfl, rfl, rfl, trivial⟩ (k111 f _ L hL (by omega) (Or.inr (Or.inr rfl)))) | exact z_istore C rfl (z_ll [(9, zi _), (8, zi (nI f)), (7, zi (nI L)), (6, zi hh), (5, zi gg), (4, zi (nI e)), (3, zr (some 854)), (2, zi (nI n)), (1, zr (some 0)), (0, zs)] ⟨rfl, rfl, rfl, rfl, rfl, rfl, rfl, rfl, rfl, rfl, trivial⟩ (k111 f _ L hL (by omega) (Or.inl (zge24 (by omega) hc2))))
  refine z_sloadn C rfl rfl ?_
  refine z_iconst C rfl ?_
  refine z_iload C rfl rfl ?_
  refine z_imul C rfl ?_
  rw [zm2]
  refine z_callsq C rfl ⟨by decide, by decide, by decide⟩ (q_cell (zKg_of C) (k := 2 * e) (by omega) h hN) rfl rfl (Nat.le_of_ble_eq_true rfl) ⟨(show a + 0 ≤ (oR ω).cells by omega), (show b + 0 ≤ (oR ω).slots by omega)⟩ fun v1 g1 q1 => ?_
  obtain ⟨hg1, gg, hv1⟩ := q1
  rw [hg1, hv1]
  refine z_istore C rfl ?_
  refine z_sloadn C rfl rfl ?_
  refine z_iconst C rfl ?_
  refine z_iload C rfl rfl ?_
  refine z_imul C rfl ?_
  refine z_iconst C rfl ?_
  refine z_iadd C rfl ?_
  rw [zm2, show nI (2 * e) + Int32.ofInt (Int.ofNat 1) = nI (2 * e + 1) from nI_1 (2 * e)]
  refine z_callsq C rfl ⟨by decide, by decide, by decide⟩ (q_cell (zKg_of C) (k := 2 * e + 1) (by omega) h hN) rfl rfl (Nat.le_of_ble_eq_true rfl) ⟨(show a + 0 ≤ (oR ω).cells by omega), (show b + 0 ≤ (oR ω).slots by omega)⟩ fun v2 g2 q2 => ?_
  obtain ⟨hg2, hh, hv2⟩ := q2
  rw [hg2, hv2]
  refine z_istore C rfl ?_
  refine z_iload C rfl rfl ?_
  refine z_iconst C rfl ?_
  refine z_callsq C rfl ⟨by decide, by decide, by decide⟩ (q_low (zKg_of C) (n := 3) (by decide) (by decide) _) rfl rfl (Nat.le_of_ble_eq_true rfl) ⟨(show a + 0 ≤ (oR ω).cells by omega), (show b + 0 ≤ (oR ω).slots by omega)⟩ fun v3 g3 q3 => ?_
  obtain ⟨hg3, j3, hj3, hv3⟩ := q3
  rw [hg3, hv3]
  refine z_iload C rfl rfl ?_
  refine z_bipush C rfl ?_
  refine z_callsq C rfl ⟨by decide, by decide, by decide⟩ (q_low (zKg_of C) (n := 41) (by decide) (by decide) _) rfl rfl (Nat.le_of_ble_eq_true rfl) ⟨(show a + 0 ≤ (oR ω).cells by omega), (show b + 0 ≤ (oR ω).slots by omega)⟩ fun v4 g4 q4 => ?_
  obtain ⟨hg4, j4, hj4, hv4⟩ := q4
  rw [hg4, hv4]
  refine z_if C rfl (fun hc1 => ?_) (fun hc1 => ?_)
  · skip
    skip
    refine z_iconst C rfl ?_
    refine z_iadd C rfl ?_
    refine z_istore C rfl ?_
    first | exact z_ll [(7, zi (nI (j3 + 1))), (6, zi hh), (5, zi gg), (4, zi (nI e)), (3, zr (some 854)), (2, zi (nI n)), (1, zr (some 0)), (0, zs)] ⟨znx j3, rfl, rfl, rfl, rfl, rfl, rfl, rfl, trivial⟩ (k71 gg hh (j3 + 1) (by omega)) | exact z_ll [(7, zi (nI j3)), (6, zi hh), (5, zi gg), (4, zi (nI e)), (3, zr (some 854)), (2, zi (nI n)), (1, zr (some 0)), (0, zs)] ⟨congrArg (fun x => some (zi x)) (Int32.add_zero (nI j3)), rfl, rfl, rfl, rfl, rfl, rfl, rfl, trivial⟩ (k71 gg hh j3 (by omega))
  · skip
    skip
    refine z_iconst C rfl ?_
    refine z_goto C rfl ?_
    refine z_iadd C rfl ?_
    refine z_istore C rfl ?_
    first | exact z_ll [(7, zi (nI (j3 + 1))), (6, zi hh), (5, zi gg), (4, zi (nI e)), (3, zr (some 854)), (2, zi (nI n)), (1, zr (some 0)), (0, zs)] ⟨znx j3, rfl, rfl, rfl, rfl, rfl, rfl, rfl, trivial⟩ (k71 gg hh (j3 + 1) (by omega)) | exact z_ll [(7, zi (nI j3)), (6, zi hh), (5, zi gg), (4, zi (nI e)), (3, zr (some 854)), (2, zi (nI n)), (1, zr (some 0)), (0, zs)] ⟨congrArg (fun x => some (zi x)) (Int32.add_zero (nI j3)), rfl, rfl, rfl, rfl, rfl, rfl, rfl, trivial⟩ (k71 gg hh j3 (by omega))
