/-! the law's calls that change things -/
def zLi (h : zH) (M n X : Nat) : Prop := zEv h M ∧ h.1 1 2 = nI n ∧ n ≤ 9 ∧ zCd h ∧ ∃ x, x ≤ X ∧ h.2.1 1 8 = Int64.ofNat x
theorem zLi_TE {g h : zH} {M n X : Nat} (e : zTE g h) (I : zLi h M n X) : zLi g M n X := by
  obtain ⟨a, b, c, d, x, hx, f⟩ := I
  refine ⟨zTE_Ev e a, by rw [zTE_n e zTh_1]; exact b, c, fun f hf => ?_, x, hx, by rw [e.1]; exact f⟩
  rw [zTE_n e (fun q => by have := zTh_ge q; omega), zTE_n e (fun q => by have := zTh_ge q; omega)]
  exact d f hf
theorem zLi_le {h : zH} {M n X Y : Nat} (I : zLi h M n X) (e : X ≤ Y) : zLi h M n Y := by
  obtain ⟨a, b, c, d, x, hx, f⟩ := I
  exact ⟨a, b, c, d, x, by omega, f⟩
theorem zLi_nx {h g : zH} {M n X k : Nat} (I : zLi h M n X) (N : zNx h M g k) : ∃ M', M ≤ M' ∧ M' ≤ M + 60 ∧ zLi g M' n (X + k) := by
  obtain ⟨a, b, c, d, x, hx, f⟩ := I
  obtain ⟨M', m1, m2, E, e1, e2, m, hm, e3⟩ := N
  refine ⟨M', m1, m2, E, e2.trans b, c, fun f hf => ?_, x + m, by omega, ?_⟩
  · rw [e1 _ (by omega) (by omega), e1 _ (by omega) (by omega)]
    exact d f hf
  · rw [e3, f, Int64.ofNat_add]
/-- what an event answers and leaves -/
def zRo (h : zH) (M n X : Nat) (got : Int32) (g : zH) (M' : Nat) : Prop := M ≤ M' ∧ M' ≤ M + 60 ∧ zLi g M' n (X + 14000) ∧ (got < 0 → M' = M ∧ zst g M = zst h M)
theorem zRo_x {h : zH} {M n X : Nat} {got : Int32} (I : zLi h M n X) : zRo h M n X got h M := ⟨Nat.le_refl _, by omega, zLi_le I (by omega), fun _ => ⟨rfl, rfl⟩⟩
theorem zRo_n {h g : zH} {M n X : Nat} {got : Int32} (I : zLi h M n X) (N : zNx h M g 0) (h0 : 0 ≤ got) : ∃ M', zRo h M n X got g M' := by
  obtain ⟨M', a, b, c⟩ := zLi_nx I N
  exact ⟨M', a, b, zLi_le c (by omega), fun q => absurd h0 (Int32.not_le.mpr q)⟩
theorem zwf {i n : Nat} (h : ¬ i < n) (hi : i < 2 ^ 31) : zwithin (nI i) (Int32.ofNat n) = false := by
  unfold zwithin
  rw [decide_eq_false (p := nI i < Int32.ofNat n) (nI_nlt (by omega) hi), Bool.and_false]
theorem zokG_f {l g : Nat} (hl : l < 1000) (hg : g < 1000) (h : ¬ (l < 3 ∧ g < 8)) : zokG (nI l) (nI g) = false := by
  unfold zokG
  by_cases q : l < 3
  · rw [show zwithin (nI g) (Int32.ofInt (Int.ofNat 8)) = false from zwf (n := 8) (fun w => h ⟨q, w⟩) (by omega), Bool.and_false]
  · rw [show zwithin (nI l) (Int32.ofInt (Int.ofNat 3)) = false from zwf (n := 3) q (by omega), Bool.false_and]
theorem zokG_t {l g : Nat} (hl : l < 3) (hg : g < 8) : zokG (nI l) (nI g) = true := by
  unfold zokG
  rw [show zwithin (nI l) (Int32.ofInt (Int.ofNat 3)) = true from zwt hl (by decide), show zwithin (nI g) (Int32.ofInt (Int.ofNat 8)) = true from zwt hg (by decide)]
  rfl
section ZRW
variable {ω : zO} {mi pc a b : Nat} {ls : List (Nat × zV)} {st : List zV} {h : zH} {idx iy iz : Nat} {ps : List Nat} {M n X : Nat}
theorem r_set (C : zX ω mi) (ht : zat mi pc = some (.invokestatic idx, (pc, 3, 128, iy, iz), 0, ps)) (hz : zh 128 + 1 ≤ zh mi) (hM : M ≤ 900000) (I : zLi h M n X) (hsum : zsum st ≤ 8) (hca : a + 1 ≤ (oR ω).cells ∧ b + 6 ≤ (oR ω).slots) {L g : Nat} {x d : Int32} (hL : L < 1000) (hg : g < 1000) (kk : ∀ (got : Int32) (g : zH) (M' a1 b1 : Nat), a1 ≤ a + 1 → b1 ≤ b + 6 → zRo h M n X got g M' → ZG ω mi (pc + 3) ls (zi got :: st) g a1 b1) : ZG ω mi pc ls (zi d :: zi x :: zi (nI g) :: zi (nI L) :: zi (Int32.ofInt (Int.ofNat 9)) :: zr (some 0) :: st) h a b := by
  by_cases q : L < 3 ∧ g < 8
  · obtain ⟨e1, e2⟩ := e_set hM I.1 (x := x) q.1 q.2
    obtain ⟨M', R⟩ := zRo_n I e1 e2
    exact z_callsH C ht ⟨by decide, hz, by decide⟩ (w_9 (zKg_of C) (c_set (zKg_of C) q.1 q.2 h I.1.1.1)) rfl rfl hsum ⟨by omega, by omega⟩ (kk _ _ M' a b (by omega) (by omega) R)
  · exact z_callsH C ht ⟨by decide, hz, by decide⟩ (x_9 (hp := 333) (vv := -1001) (zKg_of C) ⟨by decide, by decide +kernel, rfl⟩ (t_setG (zKg_of C) (zokG_f hL hg q) h)) rfl rfl hsum hca (kk _ h M (a + 1) (b + 6) (Nat.le_refl _) (Nat.le_refl _) (zRo_x I))
theorem r_make (C : zX ω mi) (ht : zat mi pc = some (.invokestatic idx, (pc, 3, 128, iy, iz), 0, ps)) (hz : zh 128 + 1 ≤ zh mi) (hM : M ≤ 900000) (I : zLi h M n X) (hsum : zsum st ≤ 8) (hca : a + 1 ≤ (oR ω).cells ∧ b + 6 ≤ (oR ω).slots) {L g : Nat} {c d : Int32} (hL : L < 1000) (hg : g < 1000) (kk : ∀ (got : Int32) (g : zH) (M' a1 b1 : Nat), a1 ≤ a + 1 → b1 ≤ b + 6 → zRo h M n X got g M' → (0 ≤ got → got = g.1 2 4 - Int32.ofInt (Int.ofNat 1)) → ZG ω mi (pc + 3) ls (zi got :: st) g a1 b1) : ZG ω mi pc ls (zi d :: zi c :: zi (nI g) :: zi (nI L) :: zi (Int32.ofInt (Int.ofNat 10)) :: zr (some 0) :: st) h a b := by
  by_cases q : L < 3 ∧ g < 8
  · cases hnw : (znw h (nI L) 60 0).1 with
    | none => exact z_callsH C ht ⟨by decide, hz, by decide⟩ (x_10 (hp := 345) (vv := -1003) (zKg_of C) ⟨by decide, by decide +kernel, rfl⟩ (t_make2 (zKg_of C) q.1 q.2 h I.1.1.1 hnw)) rfl rfl hsum hca (kk _ h M (a + 1) (b + 6) (Nat.le_refl _) (Nat.le_refl _) (zRo_x I) (fun q => absurd q (by decide)))
    | some t =>
      obtain ⟨r, hr, rfl, -, -⟩ := znw_some 60 0 rfl t hnw
      obtain ⟨e1, e2, e3⟩ := e_make hM I.1 q.1 q.2 hr hnw
      have h0 : 0 ≤ (zsettle (zmk4 h L g r)).1 (30 + 5 * r) 0 := by rw [e2]; exact nI_pos' (by omega)
      obtain ⟨M', R⟩ := zRo_n I e1 h0
      refine z_callsH C ht ⟨by decide, hz, by decide⟩ (w_10 (zKg_of C) (c_make (zKg_of C) q.1 q.2 hr h I.1.1.1 hnw)) rfl rfl hsum ⟨by omega, by omega⟩ (kk _ _ M' a b (by omega) (by omega) R (fun _ => ?_))
      rw [e2, e3, ← nI_1 M, show Int32.ofInt (Int.ofNat 1) = 1 from rfl, Int32.add_sub_cancel]
  · exact z_callsH C ht ⟨by decide, hz, by decide⟩ (x_10 (hp := 333) (vv := -1001) (zKg_of C) ⟨by decide, by decide +kernel, rfl⟩ (t_make1 (zKg_of C) (zokG_f hL hg q) h)) rfl rfl hsum hca (kk _ h M (a + 1) (b + 6) (Nat.le_refl _) (Nat.le_refl _) (zRo_x I) (fun q => absurd q (by decide)))
theorem r_pass (C : zX ω mi) (ht : zat mi pc = some (.invokestatic idx, (pc, 3, 128, iy, iz), 0, ps)) (hz : zh 128 + 1 ≤ zh mi) (hM : M ≤ 900000) (I : zLi h M n X) (hsum : zsum st ≤ 8) (hca : a + 1 ≤ (oR ω).cells ∧ b + 6 ≤ (oR ω).slots) {L g m k : Nat} (hL : L < 1000) (hg : g < 1000) (hm : m < 3) (hk : k < 1000) (kk : ∀ (got : Int32) (g : zH) (M' a1 b1 : Nat), a1 ≤ a + 1 → b1 ≤ b + 6 → zRo h M n X got g M' → (0 < got → M' = M ∧ zst g M = zst h M) → ZG ω mi (pc + 3) ls (zi got :: st) g a1 b1) : ZG ω mi pc ls (zi (nI k) :: zi (nI m) :: zi (nI g) :: zi (nI L) :: zi (Int32.ofInt (Int.ofNat 11)) :: zr (some 0) :: st) h a b := by
  by_cases q : L < 3 ∧ g < 8
  · by_cases q2 : k < 8
    · obtain ⟨e1, e2⟩ := e_pass hM I.1 q.1 q.2 hm q2
      obtain ⟨M1, a1, a2, a3⟩ := zLi_nx I e1
      by_cases z : (zpass h L g m k).1 = 0
      · exact z_callsH C ht ⟨by decide, hz, by decide⟩ (w_11 (zKg_of C) (c_pass (zKg_of C) q.1 q.2 hm q2 h I.1.1.1)) rfl rfl hsum ⟨by omega, by omega⟩ (kk _ _ M1 a b (by omega) (by omega) ⟨a1, a2, zLi_le a3 (by omega), fun q => absurd q (by rw [z]; decide)⟩ (fun q => absurd q (by rw [z]; decide)))
      · obtain ⟨z1, z2⟩ := e2 z
        have R : zRo h M n X (zpass h L g m k).1 (zpass h L g m k).2 M := by
          obtain ⟨M2, b1, b2, b3⟩ := zLi_nx I e1
          have : M2 = M := by
            have w := b3.1.2.2
            rw [z2.2.2] at w
            exact ((nI_eq (by omega) (by omega)).mp w).symm
          subst this
          exact ⟨Nat.le_refl _, by omega, zLi_le b3 (by omega), fun _ => ⟨rfl, z1⟩⟩
        exact z_callsH C ht ⟨by decide, hz, by decide⟩ (w_11 (zKg_of C) (c_pass (zKg_of C) q.1 q.2 hm q2 h I.1.1.1)) rfl rfl hsum ⟨by omega, by omega⟩ (kk _ _ M a b (by omega) (by omega) R (fun _ => ⟨rfl, z1⟩))
    · exact z_callsH C ht ⟨by decide, hz, by decide⟩ (x_11 (hp := 333) (vv := -1001) (zKg_of C) ⟨by decide, by decide +kernel, rfl⟩ (t_pass2 (zKg_of C) (zokG_t q.1 q.2) (zokG_f (by omega) hk (fun w => q2 w.2)) h)) rfl rfl hsum hca (kk _ h M (a + 1) (b + 6) (Nat.le_refl _) (Nat.le_refl _) (zRo_x I) (fun q => absurd q (by decide)))
  · exact z_callsH C ht ⟨by decide, hz, by decide⟩ (x_11 (hp := 333) (vv := -1001) (zKg_of C) ⟨by decide, by decide +kernel, rfl⟩ (t_pass1 (zKg_of C) (zokG_f hL hg q) h)) rfl rfl hsum hca (kk _ h M (a + 1) (b + 6) (Nat.le_refl _) (Nat.le_refl _) (zRo_x I) (fun q => absurd q (by decide)))
theorem r_put (C : zX ω mi) (ht : zat mi pc = some (.invokestatic idx, (pc, 3, 128, iy, iz), 0, ps)) (hz : zh 128 + 1 ≤ zh mi) (hM : M ≤ 900000) (I : zLi h M n X) (hsum : zsum st ≤ 8) (hca : a + 1 ≤ (oR ω).cells ∧ b + 6 ≤ (oR ω).slots) {L g f k : Nat} (hL : L < 1000) (hg : g < 1000) (hf : f < 1000) (hk : k < 1000) (kk : ∀ (got : Int32) (g : zH) (M' a1 b1 : Nat), a1 ≤ a + 1 → b1 ≤ b + 6 → zRo h M n X got g M' → (0 < got → M' = M ∧ zst g M = zst h M) → ZG ω mi (pc + 3) ls (zi got :: st) g a1 b1) : ZG ω mi pc ls (zi (nI k) :: zi (nI f) :: zi (nI g) :: zi (nI L) :: zi (Int32.ofInt (Int.ofNat 12)) :: zr (some 0) :: st) h a b := by
  by_cases q : L < 3 ∧ g < 8
  · by_cases q2 : k < 8
    · by_cases q3 : f < 3
      · cases hre : zisRef h (6 + (8 * L + g)) with
        | false => exact z_callsH C ht ⟨by decide, hz, by decide⟩ (x_12 (hp := 351) (vv := -1004) (zKg_of C) ⟨by decide, by decide +kernel, rfl⟩ (t_put4 (zKg_of C) q.1 q.2 (zokG_t q.1 q2) (zwt q3 (by decide)) h I.1.1.1 hre)) rfl rfl hsum hca (kk _ h M (a + 1) (b + 6) (Nat.le_refl _) (Nat.le_refl _) (zRo_x I) (fun q => absurd q (by decide)))
        | true =>
          obtain ⟨t, ht9, r, hr, rfl⟩ := zref_t I.1.1.1.1 (zS_val24 (8 * L + g) (by omega)) hre
          obtain ⟨e1, e2⟩ := e_put hM I.1 (l := L) (n := k) q.1 hr q3 q2
          obtain ⟨M1, a1, a2, a3⟩ := zLi_nx I e1
          by_cases z : (zput h L r f k).1 = 0
          · exact z_callsH C ht ⟨by decide, hz, by decide⟩ (w_12 (zKg_of C) (c_put (zKg_of C) q.1 q.2 hr q3 q2 h I.1.1.1 hre ht9)) rfl rfl hsum ⟨by omega, by omega⟩ (kk _ _ M1 a b (by omega) (by omega) ⟨a1, a2, zLi_le a3 (by omega), fun q => absurd q (by rw [z]; decide)⟩ (fun q => absurd q (by rw [z]; decide)))
          · obtain ⟨z1, z2⟩ := e2 z
            have R : zRo h M n X (zput h L r f k).1 (zput h L r f k).2 M := by
              obtain ⟨M2, b1, b2, b3⟩ := zLi_nx I e1
              have : M2 = M := by
                have w := b3.1.2.2
                rw [z2.2.2] at w
                exact ((nI_eq (by omega) (by omega)).mp w).symm
              subst this
              exact ⟨Nat.le_refl _, by omega, zLi_le b3 (by omega), fun _ => ⟨rfl, z1⟩⟩
            exact z_callsH C ht ⟨by decide, hz, by decide⟩ (w_12 (zKg_of C) (c_put (zKg_of C) q.1 q.2 hr q3 q2 h I.1.1.1 hre ht9)) rfl rfl hsum ⟨by omega, by omega⟩ (kk _ _ M a b (by omega) (by omega) R (fun _ => ⟨rfl, z1⟩))
      · exact z_callsH C ht ⟨by decide, hz, by decide⟩ (x_12 (hp := 333) (vv := -1001) (zKg_of C) ⟨by decide, by decide +kernel, rfl⟩ (t_put3 (zKg_of C) (zokG_t q.1 q.2) (zokG_t q.1 q2) (zwf q3 (by omega)) h)) rfl rfl hsum hca (kk _ h M (a + 1) (b + 6) (Nat.le_refl _) (Nat.le_refl _) (zRo_x I) (fun q => absurd q (by decide)))
    · exact z_callsH C ht ⟨by decide, hz, by decide⟩ (x_12 (hp := 333) (vv := -1001) (zKg_of C) ⟨by decide, by decide +kernel, rfl⟩ (t_put2 (zKg_of C) (zokG_t q.1 q.2) (zokG_f hL hk (fun w => q2 w.2)) h)) rfl rfl hsum hca (kk _ h M (a + 1) (b + 6) (Nat.le_refl _) (Nat.le_refl _) (zRo_x I) (fun q => absurd q (by decide)))
  · exact z_callsH C ht ⟨by decide, hz, by decide⟩ (x_12 (hp := 333) (vv := -1001) (zKg_of C) ⟨by decide, by decide +kernel, rfl⟩ (t_put1 (zKg_of C) (zokG_f hL hg q) h)) rfl rfl hsum hca (kk _ h M (a + 1) (b + 6) (Nat.le_refl _) (Nat.le_refl _) (zRo_x I) (fun q => absurd q (by decide)))
theorem r_get (C : zX ω mi) (ht : zat mi pc = some (.invokestatic idx, (pc, 3, 128, iy, iz), 0, ps)) (hz : zh 128 + 1 ≤ zh mi) (hM : M ≤ 900000) (I : zLi h M n X) (hsum : zsum st ≤ 8) (hca : a + 1 ≤ (oR ω).cells ∧ b + 6 ≤ (oR ω).slots) {L g f k : Nat} (hL : L < 1000) (hg : g < 1000) (hf : f < 1000) (hk : k < 1000) (kk : ∀ (got : Int32) (g : zH) (M' a1 b1 : Nat), a1 ≤ a + 1 → b1 ≤ b + 6 → zRo h M n X got g M' → (0 < got → M' = M ∧ zst g M = zst h M) → ZG ω mi (pc + 3) ls (zi got :: st) g a1 b1) : ZG ω mi pc ls (zi (nI k) :: zi (nI f) :: zi (nI g) :: zi (nI L) :: zi (Int32.ofInt (Int.ofNat 13)) :: zr (some 0) :: st) h a b := by
  by_cases q : L < 3 ∧ g < 8
  · by_cases q2 : k < 8
    · by_cases q3 : f < 3
      · cases hre : zisRef h (6 + (8 * L + g)) with
        | false => exact z_callsH C ht ⟨by decide, hz, by decide⟩ (x_13 (hp := 351) (vv := -1004) (zKg_of C) ⟨by decide, by decide +kernel, rfl⟩ (t_get4 (zKg_of C) q.1 q.2 (zokG_t q.1 q2) (zwt q3 (by decide)) h I.1.1.1 hre)) rfl rfl hsum hca (kk _ h M (a + 1) (b + 6) (Nat.le_refl _) (Nat.le_refl _) (zRo_x I) (fun q => absurd q (by decide)))
        | true =>
          obtain ⟨t, ht9, r, hr, rfl⟩ := zref_t I.1.1.1.1 (zS_val24 (8 * L + g) (by omega)) hre
          obtain ⟨e1, e2⟩ := e_get hM I.1 (n := k) q.1 q.2 hr q3 q2 hre ht9
          obtain ⟨M1, a1, a2, a3⟩ := zLi_nx I e1
          by_cases z : (zget h L r f k).1 = 0
          · exact z_callsH C ht ⟨by decide, hz, by decide⟩ (w_13 (zKg_of C) (c_get (zKg_of C) q.1 q.2 hr q3 q2 h I.1.1.1 hre ht9)) rfl rfl hsum ⟨by omega, by omega⟩ (kk _ _ M1 a b (by omega) (by omega) ⟨a1, a2, zLi_le a3 (by omega), fun q => absurd q (by rw [z]; decide)⟩ (fun q => absurd q (by rw [z]; decide)))
          · obtain ⟨z1, z2⟩ := e2 z
            have R : zRo h M n X (zget h L r f k).1 (zget h L r f k).2 M := by
              obtain ⟨M2, b1, b2, b3⟩ := zLi_nx I e1
              have : M2 = M := by
                have w := b3.1.2.2
                rw [z2.2.2] at w
                exact ((nI_eq (by omega) (by omega)).mp w).symm
              subst this
              exact ⟨Nat.le_refl _, by omega, zLi_le b3 (by omega), fun _ => ⟨rfl, z1⟩⟩
            exact z_callsH C ht ⟨by decide, hz, by decide⟩ (w_13 (zKg_of C) (c_get (zKg_of C) q.1 q.2 hr q3 q2 h I.1.1.1 hre ht9)) rfl rfl hsum ⟨by omega, by omega⟩ (kk _ _ M a b (by omega) (by omega) R (fun _ => ⟨rfl, z1⟩))
      · exact z_callsH C ht ⟨by decide, hz, by decide⟩ (x_13 (hp := 333) (vv := -1001) (zKg_of C) ⟨by decide, by decide +kernel, rfl⟩ (t_get3 (zKg_of C) (zokG_t q.1 q.2) (zokG_t q.1 q2) (zwf q3 (by omega)) h)) rfl rfl hsum hca (kk _ h M (a + 1) (b + 6) (Nat.le_refl _) (Nat.le_refl _) (zRo_x I) (fun q => absurd q (by decide)))
    · exact z_callsH C ht ⟨by decide, hz, by decide⟩ (x_13 (hp := 333) (vv := -1001) (zKg_of C) ⟨by decide, by decide +kernel, rfl⟩ (t_get2 (zKg_of C) (zokG_t q.1 q.2) (zokG_f hL hk (fun w => q2 w.2)) h)) rfl rfl hsum hca (kk _ h M (a + 1) (b + 6) (Nat.le_refl _) (Nat.le_refl _) (zRo_x I) (fun q => absurd q (by decide)))
  · exact z_callsH C ht ⟨by decide, hz, by decide⟩ (x_13 (hp := 333) (vv := -1001) (zKg_of C) ⟨by decide, by decide +kernel, rfl⟩ (t_get1 (zKg_of C) (zokG_f hL hg q) h)) rfl rfl hsum hca (kk _ h M (a + 1) (b + 6) (Nat.le_refl _) (Nat.le_refl _) (zRo_x I) (fun q => absurd q (by decide)))
theorem r_coll20 (C : zX ω mi) (ht : zat mi pc = some (.invokestatic idx, (pc, 3, 128, iy, iz), 0, ps)) (hz : zh 128 + 1 ≤ zh mi) (hM : M ≤ 900000) (I : zLi h M n X) (hsum : zsum st ≤ 8) (hca : a + 1 ≤ (oR ω).cells ∧ b + 6 ≤ (oR ω).slots) {a9 b9 c d : Int32} (kk : ∀ (got : Int32) (g : zH), zLi g M n X → 0 ≤ got → g.1 2 5 = h.1 2 5 + got → g = zfreeU h (Int32.ofInt (Int.ofNat 0)) → got = g.1 2 5 - h.1 2 5 → ZG ω mi (pc + 3) ls (zi got :: st) g a b) : ZG ω mi pc ls (zi d :: zi c :: zi b9 :: zi a9 :: zi (Int32.ofInt (Int.ofNat 20)) :: zr (some 0) :: st) h a b := by
  obtain ⟨e1, e2, e3⟩ := e_coll hM I.1 (b := Int32.ofInt (Int.ofNat 0))
  obtain ⟨M1, a1, a2, a3⟩ := zLi_nx I e1
  have : M1 = M := by
    have w := a3.1.2.2
    rw [e3.2.2] at w
    exact ((nI_eq (by omega) (by omega)).mp w).symm
  subst this
  exact z_callsH C ht ⟨by decide, hz, by decide⟩ (w_20 (zKg_of C) (c_collect (zKg_of C) h I.1.1.1)) rfl rfl hsum ⟨by omega, by omega⟩ (kk _ _ a3 e2 (by rw [Int32.add_comm, Int32.sub_add_cancel]) rfl rfl)
theorem r_coll21 (C : zX ω mi) (ht : zat mi pc = some (.invokestatic idx, (pc, 3, 128, iy, iz), 0, ps)) (hz : zh 128 + 1 ≤ zh mi) (hM : M ≤ 900000) (I : zLi h M n X) (hsum : zsum st ≤ 8) (hca : a + 1 ≤ (oR ω).cells ∧ b + 6 ≤ (oR ω).slots) {a9 b9 c d : Int32} (kk : ∀ (got : Int32) (g : zH), zLi g M n X → 0 ≤ got → g.1 2 5 = h.1 2 5 + got → g = zfreeU h (Int32.ofInt (Int.ofNat 1)) → got = g.1 2 5 - h.1 2 5 → ZG ω mi (pc + 3) ls (zi got :: st) g a b) : ZG ω mi pc ls (zi d :: zi c :: zi b9 :: zi a9 :: zi (Int32.ofInt (Int.ofNat 21)) :: zr (some 0) :: st) h a b := by
  obtain ⟨e1, e2, e3⟩ := e_coll hM I.1 (b := Int32.ofInt (Int.ofNat 1))
  obtain ⟨M1, a1, a2, a3⟩ := zLi_nx I e1
  have : M1 = M := by
    have w := a3.1.2.2
    rw [e3.2.2] at w
    exact ((nI_eq (by omega) (by omega)).mp w).symm
  subst this
  exact z_callsH C ht ⟨by decide, hz, by decide⟩ (w_21 (zKg_of C) (c_collectR (zKg_of C) h I.1.1.1)) rfl rfl hsum ⟨by omega, by omega⟩ (kk _ _ a3 e2 (by rw [Int32.add_comm, Int32.sub_add_cancel]) rfl rfl)
end ZRW
