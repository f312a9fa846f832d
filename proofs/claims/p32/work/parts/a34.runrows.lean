/-! functions, codes, guards, runs, results -/
theorem jch_id : ∀ j, j < 24 → ((jchr j).toUInt32 % 65536).toInt32 = jchr j := by decide
theorem zBo_B {p : Bool} : zBo (zB p) := by cases p <;> first | exact Or.inl rfl | exact Or.inr rfl
section ZRW2
variable {ω : zO} {mi pc a b : Nat} {ls : List (Nat × zV)} {st : List zV} {h : zH} {idx iy iz : Nat} {ps : List Nat} {M n X : Nat}
theorem r_addF (C : zX ω mi) (ht : zat mi pc = some (.invokestatic idx, (pc, 3, 128, iy, iz), 0, ps)) (hz : zh 128 + 1 ≤ zh mi) (hM : M ≤ 900000) (I : zLi h M n X) (hsum : zsum st ≤ 8) (hca : a + 1 ≤ (oR ω).cells ∧ b + 6 ≤ (oR ω).slots) {L p : Nat} {c d : Int32} (hL : L < 1000) (hp : p < 1000) (kk : ∀ (got : Int32) (g : zH) (n' a1 b1 : Nat), a1 ≤ a + 1 → b1 ≤ b + 6 → zLi g M n' X → ((got = nI n ∧ n' = n + 1) ∨ (got < 0 ∧ n' = n ∧ g = h)) → ZG ω mi (pc + 3) ls (zi got :: st) g a1 b1) : ZG ω mi pc ls (zi d :: zi c :: zi (nI p) :: zi (nI L) :: zi (Int32.ofInt (Int.ofNat 0)) :: zr (some 0) :: st) h a b := by
  obtain ⟨E, i1, i2, i3, x, hx, i4⟩ := id I
  by_cases q : L < 3
  · by_cases q2 : p < 3
    · by_cases q3 : n < 9
      · obtain ⟨e1, e2, e3, e4⟩ := e_addF (n := n) (l := L) (p := p) E q3 q (by omega)
        exact z_callsH C ht ⟨by decide, hz, by decide⟩ (w_0 (zKg_of C) (c_addF2 (zKg_of C) q3 (zwt q (by decide)) (zwt q2 (by decide)) h E.1.1 i1)) rfl rfl hsum ⟨by omega, by omega⟩ (kk _ _ (n + 1) a b (by omega) (by omega) ⟨e1, e2, by omega, e3 i3, x, hx, by rw [e4]; exact i4⟩ (Or.inl ⟨rfl, rfl⟩))
      · have : n = 9 := by omega
        subst this
        exact z_callsH C ht ⟨by decide, hz, by decide⟩ (x_0 (hp := 345) (vv := -1003) (zKg_of C) ⟨by decide, by decide +kernel, rfl⟩ (t_addF3 (zKg_of C) (zwt q (by decide)) (zwt q2 (by decide)) h E.1.1 i1)) rfl rfl hsum hca (kk _ h 9 (a + 1) (b + 6) (Nat.le_refl _) (Nat.le_refl _) I (Or.inr ⟨by decide, rfl, rfl⟩))
    · exact z_callsH C ht ⟨by decide, hz, by decide⟩ (x_0 (hp := 339) (vv := -1002) (zKg_of C) ⟨by decide, by decide +kernel, rfl⟩ (t_addF2 (zKg_of C) (zwt q (by decide)) (zwf q2 (by omega)) h)) rfl rfl hsum hca (kk _ h n (a + 1) (b + 6) (Nat.le_refl _) (Nat.le_refl _) I (Or.inr ⟨by decide, rfl, rfl⟩))
  · exact z_callsH C ht ⟨by decide, hz, by decide⟩ (x_0 (hp := 339) (vv := -1002) (zKg_of C) ⟨by decide, by decide +kernel, rfl⟩ (t_addF1 (zKg_of C) (zwf q (by omega)) h)) rfl rfl hsum hca (kk _ h n (a + 1) (b + 6) (Nat.le_refl _) (Nat.le_refl _) I (Or.inr ⟨by decide, rfl, rfl⟩))
theorem r_code (C : zX ω mi) (ht : zat mi pc = some (.invokestatic idx, (pc, 3, 128, iy, iz), 0, ps)) (hz : zh 128 + 1 ≤ zh mi) (hM : M ≤ 900000) (I : zLi h M n X) (hsum : zsum st ≤ 8) (hca : a + 1 ≤ (oR ω).cells ∧ b + 6 ≤ (oR ω).slots) {f j p : Nat} {d : Int32} (hf : f ≤ n) (hj : j < 24) (kk : ∀ (got : Int32) (g : zH) (a1 b1 : Nat), a1 ≤ a + 1 → b1 ≤ b + 6 → ((∃ k, k < 20 ∧ f < 9 ∧ got = nI k ∧ g.1 854 f = nI k ∧ zLi (zupI g 854 f (nI (k + 1))) M n X) ∨ (got < 0 ∧ g = h)) → ZG ω mi (pc + 3) ls (zi got :: st) g a1 b1) : ZG ω mi pc ls (zi d :: zi (nI p) :: zi (jchr j) :: zi (nI f) :: zi (Int32.ofInt (Int.ofNat 1)) :: zr (some 0) :: st) h a b := by
  obtain ⟨E, i1, i2, i3, x, hx, i4⟩ := id I
  by_cases q : f < n
  · have hx2 : zwithin (nI f) (h.1 1 2) = true := by rw [i1]; exact zwt q (by omega)
    cases hok : zokC (jchr j) (nI p) with
    | false => exact z_callsH C ht ⟨by decide, hz, by decide⟩ (x_1 (E := 0) (h1 := h) (mc := 1) (ms := 6) (hp := 339) (vv := -1002) (zKg_of C) ⟨by decide, by decide +kernel, rfl⟩ (by rw [jch_id j hj]; exact t_code2 (zKg_of C) hok h E.1.1 hx2)) rfl rfl hsum hca (kk _ h (a + 1) (b + 6) (Nat.le_refl _) (Nat.le_refl _) (Or.inr ⟨by decide, rfl⟩))
    | true =>
      obtain ⟨-, -, k, hk, ek⟩ := E.1.2.2.1.1 f (by omega)
      by_cases q2 : k < 20
      · obtain ⟨e1, e2, e3, e4⟩ := e_code (c := jchr j) (x := nI p) E (show f < 9 by omega) q2 ek
        obtain ⟨z1, z2, z3⟩ := e3 i3
        exact z_callsH C ht ⟨by decide, hz, by decide⟩ (w_1 (v := nI k) (h1 := zapp h f k (jchr j) (nI p)) (mc := 0) (ms := 0) (zKg_of C) (by rw [jch_id j hj]; exact c_code (zKg_of C) (show f < 9 by omega) (jchr_c j hj) hok q2 h E.1.1 hx2 ek)) rfl rfl hsum ⟨by omega, by omega⟩ (kk _ _ a b (by omega) (by omega) (Or.inl ⟨k, q2, by omega, rfl, z1, z2, by rw [zupI_ne (fun w => by omega), e2]; exact i1, i2, z3, x, hx, by show (zapp h f k (jchr j) (nI p)).2.1 1 8 = _; rw [e4]; exact i4⟩))
      · have : k = 20 := by omega
        subst this
        exact z_callsH C ht ⟨by decide, hz, by decide⟩ (x_1 (E := 5) (h1 := h) (mc := 1) (ms := 6) (hp := 345) (vv := -1003) (zKg_of C) ⟨by decide, by decide +kernel, rfl⟩ (by rw [jch_id j hj]; exact t_code3 (zKg_of C) (show f < 9 by omega) hok h E.1.1 hx2 ek)) rfl rfl hsum hca (kk _ h (a + 1) (b + 6) (Nat.le_refl _) (Nat.le_refl _) (Or.inr ⟨by decide, rfl⟩))
  · exact z_callsH C ht ⟨by decide, hz, by decide⟩ (x_1 (hp := 333) (vv := -1001) (zKg_of C) ⟨by decide, by decide +kernel, rfl⟩ (t_code1 (zKg_of C) h E.1.1 (by rw [i1]; exact zwf q (by omega)))) rfl rfl hsum hca (kk _ h (a + 1) (b + 6) (Nat.le_refl _) (Nat.le_refl _) (Or.inr ⟨by decide, rfl⟩))
theorem r_guard (C : zX ω mi) (ht : zat mi pc = some (.invokestatic idx, (pc, 3, 128, iy, iz), 0, ps)) (hz : zh 128 + 1 ≤ zh mi) (hM : M ≤ 900000) (I : zLi h M n X) (hsum : zsum st ≤ 8) (hca : a + 1 ≤ (oR ω).cells ∧ b + 6 ≤ (oR ω).slots) {f : Nat} {y c d : Int32} (hf : f ≤ n) (kk : ∀ (got : Int32) (g : zH) (a1 b1 : Nat), a1 ≤ a + 1 → b1 ≤ b + 6 → zLi g M n X → (0 ≤ got ∨ g = h) → ZG ω mi (pc + 3) ls (zi got :: st) g a1 b1) : ZG ω mi pc ls (zi d :: zi c :: zi y :: zi (nI f) :: zi (Int32.ofInt (Int.ofNat 2)) :: zr (some 0) :: st) h a b := by
  obtain ⟨E, i1, i2, i3, x, hx, i4⟩ := id I
  by_cases q : f < n
  · have hx2 : zwithin (nI f) (h.1 1 2) = true := by rw [i1]; exact zwt q (by omega)
    cases hok : zokU (y / 100) (y - y / 100 * 100) c with
    | false => exact z_callsH C ht ⟨by decide, hz, by decide⟩ (x_2 (hp := 339) (vv := -1002) (zKg_of C) ⟨by decide, by decide +kernel, rfl⟩ (t_guard2 (zKg_of C) hok h E.1.1 hx2)) rfl rfl hsum hca (kk _ h (a + 1) (b + 6) (Nat.le_refl _) (Nat.le_refl _) I (Or.inr rfl))
    | true =>
      obtain ⟨e1, e2, e3, e4⟩ := e_guard (x := y / 100) (y := y - y / 100 * 100) (z := c) E (show f < 9 by omega) (zBo_B (p := decide (d = 1)))
      refine z_callsH C ht ⟨by decide, hz, by decide⟩ (w_2 (zKg_of C) (c_guard (zKg_of C) (show f < 9 by omega) zBo_B hok h E.1.1 hx2)) rfl rfl hsum ⟨by omega, by omega⟩ (kk _ _ a b (by omega) (by omega) ⟨e1, by rw [e2]; exact i1, i2, e3 i3, x, hx, by rw [e4]; exact i4⟩ (Or.inl ?_))
      split <;> decide
  · exact z_callsH C ht ⟨by decide, hz, by decide⟩ (x_2 (hp := 333) (vv := -1001) (zKg_of C) ⟨by decide, by decide +kernel, rfl⟩ (t_guard1 (zKg_of C) h E.1.1 (by rw [i1]; exact zwf q (by omega)))) rfl rfl hsum hca (kk _ h (a + 1) (b + 6) (Nat.le_refl _) (Nat.le_refl _) I (Or.inr rfl))
/-- how a run ended -/
def zOu (g : zH) : Prop := g.1 1 9 = 108 ∨ g.1 1 9 = 114 ∨ (g.1 1 9 = 120 ∧ ∃ t, 1 ≤ t ∧ t ≤ 24 ∧ g.1 1 15 = nI t)
theorem r_runX (C : zX ω mi) (ht : zat mi pc = some (.invokestatic idx, (pc, 3, 128, iy, iz), 0, ps)) (hz : zh 128 + 1 ≤ zh mi) (hM : M ≤ 900000) (I : zLi h M n X) (hsum : zsum st ≤ 8) (hca : a + 1 ≤ (oR ω).cells ∧ b + 6 ≤ (oR ω).slots) {f : Nat} {y c d : Int32} (hf : ¬ f < n) (hf2 : f < 1000) (kk : ZG ω mi (pc + 3) ls (zi (-1001) :: st) h (a + 1) (b + 6)) : ZG ω mi pc ls (zi d :: zi c :: zi y :: zi (nI f) :: zi (Int32.ofInt (Int.ofNat 3)) :: zr (some 0) :: st) h a b := by
  obtain ⟨E, i1, i2, i3, x, hx, i4⟩ := id I
  exact z_callsH C ht ⟨by decide, hz, by decide⟩ (x_3 (hp := 333) (vv := -1001) (zKg_of C) ⟨by decide, by decide +kernel, rfl⟩ (t_run (zKg_of C) h E.1.1 (by rw [i1]; exact zwf hf (by omega)))) rfl rfl hsum hca kk
theorem r_run (C : zX ω mi) (ht : zat mi pc = some (.invokestatic idx, (pc, 3, 128, iy, iz), 0, ps)) (hz : zh 128 + 1 ≤ zh mi) (hM : M ≤ 900000) (I : zLi h M n X) (hsum : zsum st ≤ 8) (hca : a + 1 ≤ (oR ω).cells ∧ b + 6 ≤ (oR ω).slots) {f : Nat} {y c d : Int32} (hf : f ≤ n) (kk : ∀ (got : Int32) (g : zH) (M' a1 b1 : Nat), a1 ≤ a + 1 → b1 ≤ b + 6 → ((got = -1001 ∧ g = h ∧ M' = M) ∨ (M ≤ M' ∧ M' ≤ M + 60 ∧ zLi g M' n (X + 14000) ∧ got = g.1 1 9 ∧ zOu g ∧ ∃ m, m ≤ 14000 ∧ g.2.1 1 8 = h.2.1 1 8 + Int64.ofNat m)) → ZG ω mi (pc + 3) ls (zi got :: st) g a1 b1) : ZG ω mi pc ls (zi d :: zi c :: zi y :: zi (nI f) :: zi (Int32.ofInt (Int.ofNat 3)) :: zr (some 0) :: st) h a b := by
  by_cases q : f < n
  · obtain ⟨E, i1, i2, i3, x, hx, i4⟩ := id I
    have hx2 : zwithin (nI f) (h.1 1 2) = true := by rw [i1]; exact zwt q (by omega)
    refine z_callsqH C ht ⟨by decide, hz, by decide⟩ (w_3 (zKg_of C) (fun v h1 w => ⟨_, w.1⟩) (q_run (zKg_of C) (show f < 9 by omega) h E.1 hx2)) rfl rfl hsum ⟨by omega, by omega⟩ fun v g1 w => ?_
    obtain ⟨w1, g, i, w2, w3⟩ := w
    obtain ⟨N, o1, dd, ru⟩ := e_run hM E w2
    obtain ⟨M', m1, m2, m3⟩ := zLi_nx I N
    obtain ⟨-, -, -, -, -, -, m, hm, e3⟩ := N
    rw [w1, w3]
    refine kk _ _ M' _ _ (by omega) (by omega) (Or.inr ⟨m1, m2, m3, rfl, ?_, m, hm, e3⟩)
    unfold zOu
    rw [o1]
    rcases ru with w | ⟨-, w | w⟩
    · exact Or.inl w
    · exact Or.inr (Or.inl w)
    · exact Or.inr (Or.inr w)
  · exact r_runX C ht hz hM I hsum hca q (by have := I.2.2.1; omega) (kk _ h M (a + 1) (b + 6) (Nat.le_refl _) (Nat.le_refl _) (Or.inl ⟨rfl, rfl, rfl⟩))
theorem zch_ne {x : Int32} (h0 : 0 ≤ x.toInt) : x ≠ -1005 := fun q => by
  rw [q] at h0
  exact absurd h0 (by decide)
theorem r_resK (C : zX ω mi) (ht : zat mi pc = some (.invokestatic idx, (pc, 3, 128, iy, iz), 0, ps)) (hz : zh 128 + 1 ≤ zh mi) (hw : zWk h) (hsum : zsum st ≤ 8) (hca : a + 1 ≤ (oR ω).cells ∧ b + 6 ≤ (oR ω).slots) {a9 b9 c d : Int32} (kk : ∀ (got : Int32) (a1 b1 : Nat), a1 ≤ a + 1 → b1 ≤ b + 6 → (got = -1005 ↔ zhasR h = false) → ZG ω mi (pc + 3) ls (zi got :: st) h a1 b1) : ZG ω mi pc ls (zi d :: zi c :: zi b9 :: zi a9 :: zi (Int32.ofInt (Int.ofNat 4)) :: zr (some 0) :: st) h a b := by
  cases q : zhasR h with
  | false => exact z_callsH C ht ⟨by decide, hz, by decide⟩ (x_4 (hp := 357) (vv := -1005) (zKg_of C) ⟨by decide, by decide +kernel, rfl⟩ (t_resK (zKg_of C) h hw q)) rfl rfl hsum hca (kk _ (a + 1) (b + 6) (Nat.le_refl _) (Nat.le_refl _) ⟨fun _ => q, fun _ => rfl⟩)
  | true => exact z_callsH C ht ⟨by decide, hz, by decide⟩ (w_4 (zKg_of C) (c_resK (zKg_of C) h hw q)) rfl rfl hsum ⟨by omega, by omega⟩ (kk _ a b (by omega) (by omega) ⟨fun w => absurd w (zch_ne (hw.2.1 747 zS_747).1.1), fun w => by rw [q] at w; cases w⟩)
theorem r_tr (C : zX ω mi) (ht : zat mi pc = some (.invokestatic idx, (pc, 3, 128, iy, iz), 0, ps)) (hz : zh 128 + 1 ≤ zh mi) (hw : zWk h) (hsum : zsum st ≤ 8) (hca : a + 1 ≤ (oR ω).cells ∧ b + 6 ≤ (oR ω).slots) {a9 b9 c d : Int32} (kk : ∀ (got : Int32) (a1 b1 : Nat), a1 ≤ a + 1 → b1 ≤ b + 6 → ((h.1 1 9 = 120 ∧ got = h.1 1 15) ∨ (h.1 1 9 ≠ 120 ∧ got = -1005)) → ZG ω mi (pc + 3) ls (zi got :: st) h a1 b1) : ZG ω mi pc ls (zi d :: zi c :: zi b9 :: zi a9 :: zi (Int32.ofInt (Int.ofNat 6)) :: zr (some 0) :: st) h a b := by
  by_cases q : h.1 1 9 = 120
  · exact z_callsH C ht ⟨by decide, hz, by decide⟩ (w_6 (zKg_of C) (c_trace (zKg_of C) h hw q)) rfl rfl hsum ⟨by omega, by omega⟩ (kk _ a b (by omega) (by omega) (Or.inl ⟨q, rfl⟩))
  · exact z_callsH C ht ⟨by decide, hz, by decide⟩ (x_6 (hp := 357) (vv := -1005) (zKg_of C) ⟨by decide, by decide +kernel, rfl⟩ (t_trace (zKg_of C) h hw q)) rfl rfl hsum hca (kk _ (a + 1) (b + 6) (Nat.le_refl _) (Nat.le_refl _) (Or.inr ⟨q, rfl⟩))
theorem r_th (C : zX ω mi) (ht : zat mi pc = some (.invokestatic idx, (pc, 3, 128, iy, iz), 0, ps)) (hz : zh 128 + 1 ≤ zh mi) (hw : zWk h) (hsum : zsum st ≤ 8) (hca : a + 1 ≤ (oR ω).cells ∧ b + 6 ≤ (oR ω).slots) {a9 b9 c d : Int32} (kk : ∀ (got : Int32) (a1 b1 : Nat), a1 ≤ a + 1 → b1 ≤ b + 6 → ((h.1 1 9 = 120 ∧ got = h.1 1 13) ∨ (h.1 1 9 ≠ 120 ∧ got = -1005)) → ZG ω mi (pc + 3) ls (zi got :: st) h a1 b1) : ZG ω mi pc ls (zi d :: zi c :: zi b9 :: zi a9 :: zi (Int32.ofInt (Int.ofNat 8)) :: zr (some 0) :: st) h a b := by
  by_cases q : h.1 1 9 = 120
  · exact z_callsH C ht ⟨by decide, hz, by decide⟩ (w_8 (zKg_of C) (c_thrownIn (zKg_of C) h hw q)) rfl rfl hsum ⟨by omega, by omega⟩ (kk _ a b (by omega) (by omega) (Or.inl ⟨q, rfl⟩))
  · exact z_callsH C ht ⟨by decide, hz, by decide⟩ (x_8 (hp := 357) (vv := -1005) (zKg_of C) ⟨by decide, by decide +kernel, rfl⟩ (t_thrownIn (zKg_of C) h hw q)) rfl rfl hsum hca (kk _ (a + 1) (b + 6) (Nat.le_refl _) (Nat.le_refl _) (Or.inr ⟨q, rfl⟩))
theorem r_trA (C : zX ω mi) (ht : zat mi pc = some (.invokestatic idx, (pc, 3, 128, iy, iz), 0, ps)) (hz : zh 128 + 1 ≤ zh mi) (hw : zWk h) (hsum : zsum st ≤ 8) (hca : a + 1 ≤ (oR ω).cells ∧ b + 6 ≤ (oR ω).slots) {b9 c d : Int32} (q : h.1 1 9 = 120) {t : Nat} (ht9 : h.1 1 15 = nI t) (t24 : t ≤ 24) (kk : ZG ω mi (pc + 3) ls (zi (-1001) :: st) h (a + 1) (b + 6)) : ZG ω mi pc ls (zi d :: zi c :: zi b9 :: zi (nI t) :: zi (Int32.ofInt (Int.ofNat 7)) :: zr (some 0) :: st) h a b := by
  exact z_callsH C ht ⟨by decide, hz, by decide⟩ (x_7 (hp := 333) (vv := -1001) (zKg_of C) ⟨by decide, by decide +kernel, rfl⟩ (t_traceAt2 (zKg_of C) h hw q (by rw [ht9]; exact zwf (Nat.lt_irrefl t) (by omega)))) rfl rfl hsum hca kk
theorem r_kdX (C : zX ω mi) (ht : zat mi pc = some (.invokestatic idx, (pc, 3, 128, iy, iz), 0, ps)) (hz : zh 128 + 1 ≤ zh mi) (hw : zWk h) (hsum : zsum st ≤ 8) (hca : a + 1 ≤ (oR ω).cells ∧ b + 6 ≤ (oR ω).slots) {c d : Int32} (kk : ZG ω mi (pc + 3) ls (zi (-1001) :: st) h (a + 1) (b + 6)) : ZG ω mi pc ls (zi d :: zi c :: zi (Int32.ofInt (Int.ofNat 8)) :: zi (Int32.ofInt (Int.ofNat 0)) :: zi (Int32.ofInt (Int.ofNat 14)) :: zr (some 0) :: st) h a b := by
  exact z_callsH C ht ⟨by decide, hz, by decide⟩ (x_14 (hp := 333) (vv := -1001) (zKg_of C) ⟨by decide, by decide +kernel, rfl⟩ (t_kindOf (zKg_of C) (by decide) h)) rfl rfl hsum hca kk
theorem r_thX (C : zX ω mi) (ht : zat mi pc = some (.invokestatic idx, (pc, 3, 128, iy, iz), 0, ps)) (hz : zh 128 + 1 ≤ zh mi) (hw : zWk h) (hsum : zsum st ≤ 8) (hca : a + 1 ≤ (oR ω).cells ∧ b + 6 ≤ (oR ω).slots) {b9 c d : Int32} (kk : ZG ω mi (pc + 3) ls (zi (-1001) :: st) h (a + 1) (b + 6)) : ZG ω mi pc ls (zi d :: zi c :: zi b9 :: zi (Int32.ofInt (Int.negSucc 0)) :: zi (Int32.ofInt (Int.ofNat 17)) :: zr (some 0) :: st) h a b := by
  exact z_callsH C ht ⟨by decide, hz, by decide⟩ (x_17 (hp := 333) (vv := -1001) (zKg_of C) ⟨by decide, by decide +kernel, rfl⟩ (t_isThere (zKg_of C) h hw (by unfold zwithin; rfl))) rfl rfl hsum hca kk
end ZRW2
