/-! the law: the loop and its end -/
set_option maxHeartbeats 400000 in
set_option maxRecDepth 20000 in
theorem l_fin {ω : zO} (C : zX ω 131) {h : zH} {a b n M X : Nat} (hM : M ≤ 900000) (I : zLi h M n X) (hca : a + 3 ≤ (oR ω).cells ∧ b + 18 ≤ (oR ω).slots) (kk : ZG ω 131 968 [(2, zi (nI n)), (1, zr (some 0)), (0, zs)] [zi 1] h (a + 1 + 1 + 1) (b + 6 + 6 + 6)) : ZG ω 131 915 [(2, zi (nI n)), (1, zr (some 0)), (0, zs)] [] h a b := by
  obtain ⟨hca1, hca2⟩ := hca
  have n9 := I.2.2.1
  refine z_aloadn C rfl rfl ?_
  refine z_iconst C rfl ?_
  refine z_iloadn C rfl rfl ?_
  refine z_iconst C rfl ?_
  refine z_iconst C rfl ?_
  refine z_iconst C rfl ?_
  refine r_runX C rfl (by decide) hM I (Nat.le_of_ble_eq_true rfl) ⟨(show a + 1 ≤ (oR ω).cells by omega), (show b + 6 ≤ (oR ω).slots by omega)⟩ (Nat.lt_irrefl n) (by omega) ?_
  refine z_sipush C rfl ?_
  refine z_icmp C rfl (fun hc => absurd rfl hc) (fun _ => ?_)
  refine z_aloadn C rfl rfl ?_
  refine z_bipush C rfl ?_
  refine z_iconst C rfl ?_
  refine z_bipush C rfl ?_
  refine z_iconst C rfl ?_
  refine z_iconst C rfl ?_
  refine r_kdX C rfl (by decide) I.1.1.1 (Nat.le_of_ble_eq_true rfl) ⟨(show (a + 1) + 1 ≤ (oR ω).cells by omega), (show (b + 6) + 6 ≤ (oR ω).slots by omega)⟩ ?_
  refine z_sipush C rfl ?_
  refine z_icmp C rfl (fun hc => absurd rfl hc) (fun _ => ?_)
  refine z_aloadn C rfl rfl ?_
  refine z_bipush C rfl ?_
  refine z_iconst C rfl ?_
  refine z_iconst C rfl ?_
  refine z_iconst C rfl ?_
  refine z_iconst C rfl ?_
  refine r_thX C rfl (by decide) I.1.1.1 (Nat.le_of_ble_eq_true rfl) ⟨(show (a + 1 + 1) + 1 ≤ (oR ω).cells by omega), (show (b + 6 + 6) + 6 ≤ (oR ω).slots by omega)⟩ ?_
  refine z_sipush C rfl ?_
  refine z_icmp C rfl (fun hc => absurd rfl hc) (fun _ => ?_)
  refine z_iconst C rfl ?_
  refine z_goto C rfl ?_
  exact z_ll [(2, zi (nI n)), (1, zr (some 0)), (0, zs)] ⟨rfl, rfl, rfl, trivial⟩ kk
set_option maxHeartbeats 400000 in
set_option maxRecDepth 20000 in
theorem l_law {ω : zO} (C0 : zX ω 131) {a0 b0 Z : Nat} (hZ : zA 76 ≤ Z) (hN : kN (oK ω) < 2 ^ 31) (hcap : a0 + Z + 10 ≤ (oR ω).cells ∧ b0 + 6 * (Z + 10) ≤ (oR ω).slots) : ∀ (m e n M : Nat) (h : zH) (a b : Nat) (d0 : Drawn), e + m = 76 → (oS ω).drawn.sameBut d0 lw_cs → zLi h M n (14000 * e) → M ≤ 60 * (e - 24) → a ≤ a0 + zA e → b ≤ b0 + 6 * zA e →
    (∀ (g : zH) (n' M' a1 b1 : Nat) (d1 : Drawn), (oS ω).drawn.sameBut d1 lw_cs → a1 ≤ a0 + Z → b1 ≤ b0 + 6 * Z → M' ≤ 900000 → zLi g M' n' 2000000 → ZG (zod ω d1) 131 915 [(2, zi (nI n')), (1, zr (some 0)), (0, zs)] [] g a1 b1) →
    ZG (zod ω d0) 131 18 [(4, zi (nI e)), (3, zr (some 854)), (2, zi (nI n)), (1, zr (some 0)), (0, zs)] [] h a b := by
  obtain ⟨hcap1, hcap2⟩ := hcap
  intro m
  induction m with
  | zero =>
    intro e n M h a b d0 em hd0 I hM ha hb kk
    have C := zX_od C0 d0
    have e76 : e = 76 := by omega
    have z76 : zA e ≤ Z := by rw [e76]; exact hZ
    refine z_iload C rfl rfl ?_
    refine z_bipush C rfl ?_
    refine z_icmp C rfl (fun hc => ?_) (fun hc => absurd (show nI 76 ≤ nI e by rw [e76]; exact Int32.le_refl _) hc)
    exact z_ll [(2, zi (nI n)), (1, zr (some 0)), (0, zs)] ⟨rfl, rfl, rfl, trivial⟩ (kk h n M a b d0 hd0 (by omega) (by omega) (by omega) (zLi_le I (by omega)))
  | succ m ih =>
    intro e n M h a b d0 em hd0 I hM ha hb kk
    have C := zX_od C0 d0
    have he : e < 76 := by omega
    have hz := Nat.le_trans (zA_76 he) hZ
    clear hZ
    have hz1 : zA (e + 1) = zA e + 200 + 360 * (e - 24) := rfl
    refine z_iload C rfl rfl ?_
    refine z_bipush C rfl ?_
    refine z_icmp C rfl (fun hc => absurd hc (nI_ge he (by decide))) (fun hc => ?_)
    refine l_event C0 hN hd0 he I hM ⟨by omega, by omega⟩ fun g n' M' a1 b1 d1 hd1 ha1 hb1 hM1 I1 => ?_
    have C := zX_od C0 d1
    refine z_iinc C rfl rfl ?_
    refine z_goto C rfl ?_
    exact z_ll [(4, zi (nI (e + 1))), (3, zr (some 854)), (2, zi (nI n')), (1, zr (some 0)), (0, zs)] ⟨znx e, rfl, rfl, rfl, rfl, trivial⟩ (ih (e + 1) n' M' g a1 b1 d1 (by omega) hd1 I1 hM1 (by omega) (by omega) kk)
/-- from the loop's head to the answer -/
theorem l_all {ω : zO} (C0 : zX ω 131) {a0 b0 Z : Nat} (hZ : zA 76 ≤ Z) (hN : kN (oK ω) < 2 ^ 31) (hcap : a0 + Z + 10 ≤ (oR ω).cells ∧ b0 + 6 * (Z + 10) ≤ (oR ω).slots) {h : zH} {d0 : Drawn} (hd0 : (oS ω).drawn.sameBut d0 lw_cs) (I : zLi h 0 0 0)
    (kk : ∀ (g : zH) (n a1 b1 : Nat) (d1 : Drawn), (oS ω).drawn.sameBut d1 lw_cs → a1 ≤ a0 + Z + 10 → b1 ≤ b0 + 6 * (Z + 10) → ZG (zod ω d1) 131 968 [(2, zi (nI n)), (1, zr (some 0)), (0, zs)] [zi 1] g a1 b1) : ZG (zod ω d0) 131 18 [(4, zi (nI 0)), (3, zr (some 854)), (2, zi (nI 0)), (1, zr (some 0)), (0, zs)] [] h a0 b0 :=
  l_law C0 hZ hN hcap 76 0 0 0 h a0 b0 d0 rfl hd0 I (Nat.le_refl _) (Nat.le_refl _) (Nat.le_refl _) fun g n' M' a1 b1 d1 hd1 ha1 hb1 hM1 I1 =>
    l_fin (zX_od C0 d1) hM1 I1 ⟨(show a1 + 3 ≤ (oR ω).cells by omega), (show b1 + 18 ≤ (oR ω).slots by omega)⟩ (kk g n' _ _ d1 hd1 (by omega) (by omega))
