/-! the law's state -/
theorem zdv {i n : Nat} (hi : i < 2 ^ 31) (h0 : 0 < n) (hn : n < 1000) : nI i / nI n = nI (i / n) := by
  refine Int32.toInt_inj.mp ?_
  rw [Int32.toInt_div_of_ne_right _ _ (by rw [show (-1 : Int32) = Int32.ofInt (-1) from rfl]; intro q; have := congrArg Int32.toInt q; rw [nI_toInt (by omega)] at this; exact absurd this (by rw [show (Int32.ofInt (-1)).toInt = -1 from by decide]; omega)), nI_toInt hi, nI_toInt (by omega), nI_toInt (Nat.lt_of_le_of_lt (Nat.div_le_self _ _) hi)]
  exact Int.ofNat_tdiv i n
theorem zdv8 {i : Nat} (hi : i < 24) : nI i / Int32.ofInt (Int.ofNat 8) = nI (i / 8) := zdv (n := 8) (by omega) (by decide) (by decide)
theorem zrm8 {i : Nat} (hi : i < 24) : nI i - nI i / Int32.ofInt (Int.ofNat 8) * Int32.ofInt (Int.ofNat 8) = nI (i % 8) := by
  rw [zdv8 hi]
  have e2 : nI (i / 8) * Int32.ofInt (Int.ofNat 8) = nI (i / 8 * 8) := (Int32.ofNat_mul _ _).symm
  rw [e2, zsubL (Nat.div_mul_le_self i 8)]
  congr 1
  omega
theorem zk8 {i : Nat} : 6 + (8 * (i / 8) + i % 8) = 6 + i := by omega
theorem zTE_couA {g h : zH} (e : zTE g h) (hS : zShp h.2.2.2) {n : Int32} : zcouA g n = zcouA h n := by
  unfold zcouA
  rw [zTE_fnd e, zTE_tally e hS]
theorem zTE_helA {g h : zH} (e : zTE g h) (hS : zShp h.2.2.2) {n : Int32} : zhelA g n = zhelA h n := by
  unfold zhelA
  rw [zTE_fnd e, zTE_tally e hS]
def zsG (h : zH) : Nat → Nat → Int64 → Int64
  | 0, _, x => x
  | m + 1, i, x => zsG h m (i + 1) (31 * (31 * x + (h.1 (6 + i) 0).toInt64) + (znumA h (6 + i)).toInt64)
def zsT (h : zH) : Nat → Nat → Int64 → Int64
  | 0, _, x => x
  | m + 1, i, x => zsT h m (i + 1) (31 * (31 * x + (zcouA h (nI i)).toInt64) + (zhelA h (nI i)).toInt64)
def zst (h : zH) (M : Nat) : Int64 := 31 * (31 * zsT h M 0 (zsG h 24 0 193) + (h.1 2 5).toInt64) + h.2.1 1 8
theorem zTh_2 : ¬ zTh 2 := fun ⟨r, _, e⟩ => by omega
theorem zTh_1 : ¬ zTh 1 := fun ⟨r, _, e⟩ => by omega
set_option maxHeartbeats 400000 in
set_option maxRecDepth 20000 in
theorem l_st1 {ω : zO} (C0 : zX ω 129) {h : zH} (hw : zWk h) : ∀ (m i : Nat) (x : Int64) (a b : Nat) (d0 : Drawn), i + m = 24 → (oS ω).drawn.sameBut d0 lw_cs → a + m ≤ (oR ω).cells → b + 6 * m ≤ (oR ω).slots →
    (∀ a1 b1 d1, a1 ≤ a + m → b1 ≤ b + 6 * m → (oS ω).drawn.sameBut d1 lw_cs → ZG (zod ω d1) 129 64 [(1, zj (zsG h m i x)), (0, zr (some 0))] [] h a1 b1) →
    ZG (zod ω d0) 129 6 [(3, zi (nI i)), (1, zj x), (0, zr (some 0))] [] h a b := by
  intro m
  induction m with
  | zero =>
    intro i x a b d0 e hd0 ha hb kk
    have C := zX_od C0 d0
    obtain rfl : i = 24 := by omega
    refine z_iloadn C rfl rfl ?_
    refine z_bipush C rfl ?_
    refine z_icmp C rfl (fun hc => ?_) (fun hc => absurd (Int32.le_refl _) hc)
    exact z_ll [(1, zj x), (0, zr (some 0))] ⟨rfl, rfl, trivial⟩ (kk a b d0 (Nat.le_refl _) (Nat.le_refl _) hd0)
  | succ m ih =>
    intro i x a b d0 e hd0 ha hb kk
    have C := zX_od C0 d0
    have hi : i < 24 := by omega
    have hl : i / 8 < 3 := by omega
    have hg : i % 8 < 8 := by omega
    refine z_iloadn C rfl rfl ?_
    refine z_bipush C rfl ?_
    refine z_icmp C rfl (fun hc => absurd hc (nI_ge hi (by decide))) (fun hc => ?_)
    refine z_ldcj C (by decide +kernel) kc110 ?_
    refine z_ldcj C (by decide +kernel) kc110 ?_
    refine z_lloadn C rfl rfl ?_
    refine z_lmul C rfl ?_
    refine z_aloadn C rfl rfl ?_
    refine z_bipush C rfl ?_
    refine z_iloadn C rfl rfl ?_
    refine z_bipush C rfl ?_
    refine z_idiv C rfl (by decide) ?_
    refine z_iloadn C rfl rfl ?_
    refine z_bipush C rfl ?_
    refine z_irem C rfl (by decide) ?_
    refine z_iconst C rfl ?_
    refine z_iconst C rfl ?_
    rw [zrm8 hi, zdv8 hi]
    refine zg_kind C rfl (by decide) hl hg hw (Nat.le_of_ble_eq_true rfl) ⟨(show a ≤ (oR ω).cells by omega), (show b ≤ (oR ω).slots by omega)⟩ ?_
    refine z_i2l C rfl ?_
    refine z_ladd C rfl ?_
    refine z_lmul C rfl ?_
    refine z_aloadn C rfl rfl ?_
    refine z_bipush C rfl ?_
    refine z_iloadn C rfl rfl ?_
    refine z_bipush C rfl ?_
    refine z_idiv C rfl (by decide) ?_
    refine z_iloadn C rfl rfl ?_
    refine z_bipush C rfl ?_
    refine z_irem C rfl (by decide) ?_
    refine z_iconst C rfl ?_
    refine z_iconst C rfl ?_
    rw [zrm8 hi, zdv8 hi]
    refine zg_num C0 hd0 rfl (by decide) hl hg hw (Nat.le_of_ble_eq_true rfl) ⟨by omega, by omega⟩ fun a1 b1 d1 ha1 hb1 hd1 => ?_
    have C := zX_od C0 d1
    rw [zk8]
    refine z_i2l C rfl ?_
    refine z_ladd C rfl ?_
    refine z_lstoren C rfl ?_
    refine z_iinc C rfl rfl ?_
    refine z_goto C rfl ?_
    exact z_ll [(3, zi (nI (i + 1))), (1, zj (31 * (31 * x + (h.1 (6 + i) 0).toInt64) + (znumA h (6 + i)).toInt64)), (0, zr (some 0))] ⟨znx i, rfl, rfl, trivial⟩ (ih (i + 1) _ a1 b1 d1 (by omega) hd1 (by omega) (by omega) fun a2 b2 d2 ha2 hb2 hd2 => kk a2 b2 d2 (by omega) (by omega) hd2)
set_option maxHeartbeats 400000 in
set_option maxRecDepth 20000 in
theorem l_st2 {ω : zO} (C : zX ω 129) {h : zH} (hw : zWk h) {M : Nat} (hM : M < 2 ^ 31) (hm : h.1 2 4 = nI M) : ∀ (m i : Nat) (x : Int64) (g : zH) (a b : Nat), i + m = M → zTE g h → a + 2 * m ≤ (oR ω).cells → b + 12 * m ≤ (oR ω).slots →
    (∀ a1 b1 g1, a1 ≤ a + 2 * m → b1 ≤ b + 12 * m → zTE g1 h → ZG ω 129 114 [(1, zj (zsT h m i x)), (0, zr (some 0))] [] g1 a1 b1) →
    ZG ω 129 66 [(3, zi (nI i)), (1, zj x), (0, zr (some 0))] [] g a b := by
  intro m
  induction m with
  | zero =>
    intro i x g a b e eg ha hb kk
    obtain rfl : i = M := by omega
    refine z_iloadn C rfl rfl ?_
    refine z_aloadn C rfl rfl ?_
    refine z_callv C rfl ⟨by decide, by decide⟩ zS_0 (c_made (zKg_of C) g (zTE_Wk eg hw)) rfl rfl (Nat.le_of_ble_eq_true rfl) ⟨(show a + 0 ≤ _ by omega), (show b + 0 ≤ _ by omega)⟩ ?_
    rw [zTE_n eg zTh_2, hm]
    refine z_icmp C rfl (fun hc => ?_) (fun hc => absurd (Int32.le_refl _) hc)
    exact z_ll [(1, zj x), (0, zr (some 0))] ⟨rfl, rfl, trivial⟩ (kk a b g (Nat.le_refl _) (Nat.le_refl _) eg)
  | succ m ih =>
    intro i x g a b e eg ha hb kk
    have hiM : i < M := by omega
    have hwj : zwithin (nI i) (nI M) = true := zwt hiM hM
    have hwi : zwithin (nI i) (g.1 2 4) = true := by rw [zTE_n eg zTh_2, hm]; exact hwj
    refine z_iloadn C rfl rfl ?_
    refine z_aloadn C rfl rfl ?_
    refine z_callv C rfl ⟨by decide, by decide⟩ zS_0 (c_made (zKg_of C) g (zTE_Wk eg hw)) rfl rfl (Nat.le_of_ble_eq_true rfl) ⟨(show a + 0 ≤ _ by omega), (show b + 0 ≤ _ by omega)⟩ ?_
    rw [zTE_n eg zTh_2, hm]
    refine z_icmp C rfl (fun hc => absurd hc (nI_ge hiM hM)) (fun hc => ?_)
    refine z_ldcj C (by decide +kernel) kc110 ?_
    refine z_ldcj C (by decide +kernel) kc110 ?_
    refine z_lloadn C rfl rfl ?_
    refine z_lmul C rfl ?_
    refine z_aloadn C rfl rfl ?_
    refine z_bipush C rfl ?_
    refine z_iloadn C rfl rfl ?_
    refine z_iconst C rfl ?_
    refine z_iconst C rfl ?_
    refine z_iconst C rfl ?_
    refine zg_cou C rfl (by decide) (zTE_Wk eg hw) hwi (Nat.le_of_ble_eq_true rfl) ⟨by omega, by omega⟩ fun a1 b1 g1 ha1 hb1 e1 => ?_
    rw [zTE_couA eg hw.1]
    have eg1 := zTE_tr e1 eg
    refine z_i2l C rfl ?_
    refine z_ladd C rfl ?_
    refine z_lmul C rfl ?_
    refine z_aloadn C rfl rfl ?_
    refine z_bipush C rfl ?_
    refine z_iloadn C rfl rfl ?_
    refine z_iconst C rfl ?_
    refine z_iconst C rfl ?_
    refine z_iconst C rfl ?_
    refine zg_hel C rfl (by decide) (zTE_Wk eg1 hw) (by rw [zTE_n eg1 zTh_2, hm]; exact hwj) (Nat.le_of_ble_eq_true rfl) ⟨by omega, by omega⟩ fun a2 b2 g2 ha2 hb2 e2 => ?_
    rw [zTE_helA eg1 hw.1]
    have eg2 := zTE_tr e2 eg1
    refine z_i2l C rfl ?_
    refine z_ladd C rfl ?_
    refine z_lstoren C rfl ?_
    refine z_iinc C rfl rfl ?_
    refine z_goto C rfl ?_
    exact z_ll [(3, zi (nI (i + 1))), (1, zj (31 * (31 * x + (zcouA h (nI i)).toInt64) + (zhelA h (nI i)).toInt64)), (0, zr (some 0))] ⟨znx i, rfl, rfl, trivial⟩ (ih (i + 1) _ g2 a2 b2 (by omega) eg2 (by omega) (by omega) fun a3 b3 g3 ha3 hb3 e3 => kk a3 b3 g3 (by omega) (by omega) e3)
set_option maxHeartbeats 400000 in
set_option maxRecDepth 20000 in
theorem d_state {κ : zK} (hκ : zKg κ) {M : Nat} (hM : M < 2 ^ 31) (h : zH) (hw : zWk h) (hm : h.1 2 4 = nI M) : zRD κ 129 [zr (some 0)] h (fun v h' => v = some (zj (zst h M)) ∧ zTE h' h) (24 + 2 * M) (6 * (24 + 2 * M)) := by
  refine zRD_of hκ (by decide) (by decide +kernel) (Nat.le_of_ble_eq_true rfl) fun ω C0 hK he d0 hd0 => ?_
  have C := zX_od C0 d0
  refine z_ldcj C (by decide +kernel) kc108 ?_
  refine z_lstoren C rfl ?_
  refine z_iconst C rfl ?_
  refine z_istoren C rfl ?_
  refine z_ll [(3, zi (nI 0)), (1, zj 193), (0, zr (some 0))] ⟨rfl, rfl, rfl, trivial⟩ ?_
  refine l_st1 C0 hw 24 0 193 0 0 d0 rfl hd0 (by rw [he.2.1]; omega) (by rw [he.2.2]; omega) fun a1 b1 d1 ha1 hb1 hd1 => ?_
  have C := zX_od C0 d1
  refine z_iconst C rfl ?_
  refine z_istoren C rfl ?_
  refine z_ll [(3, zi (nI 0)), (1, zj (zsG h 24 0 193)), (0, zr (some 0))] ⟨rfl, rfl, rfl, trivial⟩ ?_
  refine l_st2 C hw hM hm M 0 (zsG h 24 0 193) h a1 b1 (Nat.zero_add _) zTE_refl (show a1 + 2 * M ≤ (oR ω).cells by rw [he.2.1]; omega) (show b1 + 12 * M ≤ (oR ω).slots by rw [he.2.2]; omega) fun a2 b2 g2 ha2 hb2 eg2 => ?_
  have hd2 := hd1
  refine z_ldcj C (by decide +kernel) kc110 ?_
  refine z_ldcj C (by decide +kernel) kc110 ?_
  refine z_lloadn C rfl rfl ?_
  refine z_lmul C rfl ?_
  refine z_aloadn C rfl rfl ?_
  refine z_callv C rfl ⟨by decide, by decide⟩ zS_0 (c_freed (zKg_of C) g2 (zTE_Wk eg2 hw)) rfl rfl (Nat.le_of_ble_eq_true rfl) ⟨(show a2 + 0 ≤ (oR ω).cells by rw [he.2.1]; omega), (show b2 + 0 ≤ (oR ω).slots by rw [he.2.2]; omega)⟩ ?_
  rw [zTE_n eg2 zTh_2]
  refine z_i2l C rfl ?_
  refine z_ladd C rfl ?_
  refine z_lmul C rfl ?_
  refine z_aloadn C rfl rfl ?_
  refine z_callv C rfl ⟨by decide, by decide⟩ zS_0 (c_crossings (zKg_of C) g2 (zTE_Wk eg2 hw)) rfl rfl (Nat.le_of_ble_eq_true rfl) ⟨(show a2 + 0 ≤ (oR ω).cells by rw [he.2.1]; omega), (show b2 + 0 ≤ (oR ω).slots by rw [he.2.2]; omega)⟩ ?_
  rw [show g2.2.1 = h.2.1 from congrArg Prod.fst eg2.1]
  refine z_ladd C rfl ?_
  exact z_lreturnD C0 hd2 rfl he ⟨by omega, by omega⟩ rfl ⟨rfl, eg2⟩
