/-! code, guard -/
set_option maxHeartbeats 400000 in
set_option maxRecDepth 100000 in
theorem jwIx : Cond.code yJ0_indexOf_0f7a4 cJ0_indexOf_0f7a4 2 (some .int) ∈ lw_tbl ∧ Cond.instanceMethod yJ0_indexOf_0f7a4 ∈ lw_tbl ∧ Cond.initialized (yJ0_indexOf_0f7a4).cls ∈ lw_tbl ∧ Cond.methodLink (xY 91).cls 58 yJ0_indexOf_0f7a4 ∈ lw_tbl ∧ Cond.selects "java/lang/String" yJ0_indexOf_0f7a4 yJ0_indexOf_0f7a4 ∈ lw_tbl := ⟨by decide +kernel, by decide +kernel, by decide +kernel, by decide +kernel, by decide +kernel⟩
set_option maxHeartbeats 400000 in
set_option maxRecDepth 20000 in
theorem z_ixop {ω : zO} (C : zX ω 91) {h : zH} {a b : Nat} {ls : List (Nat × zV)} {x : Int32} (hx2 : zlook ls 2 = some (zi x)) (kk : ZG ω 91 11 ls [zi (jix 0 x)] h a b) (ha : a ≤ (oR ω).cells ∧ b ≤ (oR ω).slots) : ZG ω 91 5 ls [] h a b := by
  intro H locs lsA hR hL
  obtain ⟨⟨hx, hb, hml, hown, hnm⟩, hts, ⟨hW, hX, hbl, hs0⟩, hi, hRf, hRl, hret, hlocks, -⟩ := id C
  obtain ⟨K, V, s1, s2, s3, s4, s5⟩ := hW.2.2.2.2.1.2
  have hq : ∀ q : Nat, ¬ (kρ (oK ω)).1 ≤ q → H[q]? = (oS ω).heap[q]? := fun q hq => by
    have hB : (kρ (oK ω)).1 = (kH (oK ω)).size := hR.2.2
    rw [hs0 q (by omega)]
    exact hR.2.1.2.1 q (by omega) hq
  refine va_ldcS hx hb hown s2 (by decide +kernel) ?_
  refine lv_iload_n (k := 2) hx hb (by decide +kernel) rfl (zl_at hL hx2) ?_
  have hJ : jW (fun q => (kρ (oK ω)).1 ≤ q) K V (oS ω) := ⟨s1, s4, s5⟩
  have S : CallFix (oP ω) (oM ω) (oC ω) (xBy 91) (xML 91) (oS ω) (oA ω) xgw (xY 91).cls := ⟨hx, hb, hml, hown, hts⟩
  obtain ⟨cell, c1, c2, c3, c4⟩ := (s1.1 0 (by decide)).1
  have hrecv : ∃ cellB : Cell, H[K 0]? = some cellB ∧ cellB.vm.isStatics = false ∧ (oS ω).vm.findClass "java/lang/String" = some cellB.cls := ⟨cell, by rw [hq _ c4]; exact c1, c2, c3⟩
  have h8 := lv_room (m := oM ω) (pc := 8) (ls := lsA) (rest := [.int x, .ref (K 0)]) (st := []) (by decide)
  exact j_after (mc := 0) (vx_runV (C := "java/lang/String") (n := 1) (As := [.int x]) S (j_ix (A := fun q => (kρ (oK ω)).1 ≤ q) (V := V) (x := x) (i := 0) (by decide)) ⟨callB_of _ hts (jgood (xgw_of jwIx.1 rfl)) rfl rfl rfl (hts _ (xgw_of jwIx.2.2.1 rfl)) (hts _ (xgw_of jwIx.2.2.2.1 rfl)) ⟨by decide, by decide, by decide +kernel⟩ ⟨by
      have h1 : 5 ≤ (oR ω).frames := by omega
      exact h1, by
      have h1 : 8 + (2 + 11) + (60 * 4 + 40) ≤ (oR ω).locals := by omega
      exact h1⟩, hts _ (xgw_of jwIx.2.1 rfl), hts _ (xgw_of jwIx.2.2.2.2 rfl)⟩ ⟨jblind, hrecv, fun U hU hw => ⟨rfl, jW_of hw (fun a hA => by rw [hU]; exact hq a hA) hJ⟩⟩ rfl rfl hL.1 rfl h8 (show decode (xBy 91) 8 = Except.ok (Instr.invokevirtual 58, 3) by decide +kernel) ⟨ha.1, ha.2⟩) (kk H locs lsA hR hL)
/-- a code's text and number -/
def zokC (c n : Int32) : Bool := decide (0 ≤ jix 0 c) && (decide (Int32.ofInt (Int.negSucc 9998) ≤ n) && decide (n ≤ Int32.ofInt (Int.ofNat 9999)))
theorem zokC_t {c n : Int32} (h1 : ¬ xCmp .lt (jix 0 c) 0) (h2 : ¬ xCmp .lt n (Int32.ofInt (Int.negSucc 9998))) (h3 : xCmp .le n (Int32.ofInt (Int.ofNat 9999))) : zokC c n = true := by
  unfold zokC
  rw [decide_eq_true (Int32.not_lt.mp h1), decide_eq_true (Int32.not_lt.mp h2), decide_eq_true (show n ≤ _ from h3)]
  rfl
theorem zokC_1 {c n : Int32} (h : zokC c n = true) (h1 : xCmp .lt (jix 0 c) 0) : False := by
  unfold zokC at h
  rw [Bool.and_eq_true, decide_eq_true_iff] at h
  exact absurd h.1 (Int32.not_le.mpr h1)
theorem zokC_2 {c n : Int32} (h : zokC c n = true) (h1 : xCmp .lt n (Int32.ofInt (Int.negSucc 9998))) : False := by
  unfold zokC at h
  rw [Bool.and_eq_true, Bool.and_eq_true, decide_eq_true_iff, decide_eq_true_iff] at h
  exact absurd h.2.1 (Int32.not_le.mpr h1)
theorem zokC_3 {c n : Int32} (h : zokC c n = true) (h1 : ¬ xCmp .le n (Int32.ofInt (Int.ofNat 9999))) : False := by
  unfold zokC at h
  rw [Bool.and_eq_true, Bool.and_eq_true, decide_eq_true_iff, decide_eq_true_iff, decide_eq_true_iff] at h
  exact h1 h.2.2
def zokU (x y z : Int32) : Bool := (zwithin x (Int32.ofInt (Int.ofNat 20)) && zwithin y (Int32.ofInt (Int.ofNat 20))) && (decide (Int32.ofInt (Int.negSucc 0) ≤ z) && (decide (z < Int32.ofInt (Int.ofNat 20)) && decide (x ≤ y)))
theorem zokU_t {x y z : Int32} (h1 : ¬ xCmp .eq (zB (zwithin x (Int32.ofInt (Int.ofNat 20)) && zwithin y (Int32.ofInt (Int.ofNat 20)))) 0) (h2 : ¬ xCmp .lt z (Int32.ofInt (Int.negSucc 0))) (h3 : ¬ xCmp .ge z (Int32.ofInt (Int.ofNat 20))) (h4 : xCmp .ge y x) : zokU x y z = true := by
  unfold zokU
  rw [zbq2 h1, decide_eq_true (Int32.not_lt.mp h2), decide_eq_true (Int32.not_le.mp h3), decide_eq_true (show x ≤ y from h4)]
  rfl
theorem zokU_1 {x y z : Int32} (h : zokU x y z = true) (h1 : xCmp .eq (zB (zwithin x (Int32.ofInt (Int.ofNat 20)) && zwithin y (Int32.ofInt (Int.ofNat 20)))) 0) : False := by
  unfold zokU at h
  rw [zbq1 h1] at h
  cases h
theorem zokU_2 {x y z : Int32} (h : zokU x y z = true) (h1 : xCmp .lt z (Int32.ofInt (Int.negSucc 0))) : False := by
  unfold zokU at h
  simp only [Bool.and_eq_true, decide_eq_true_eq] at h
  exact absurd h.2.1 (Int32.not_le.mpr h1)
theorem zokU_3 {x y z : Int32} (h : zokU x y z = true) (h1 : xCmp .ge z (Int32.ofInt (Int.ofNat 20))) : False := by
  unfold zokU at h
  simp only [Bool.and_eq_true, decide_eq_true_eq] at h
  exact absurd h.2.2.1 (Int32.not_lt.mpr h1)
theorem zokU_4 {x y z : Int32} (h : zokU x y z = true) (h1 : ¬ xCmp .ge y x) : False := by
  unfold zokU at h
  simp only [Bool.and_eq_true, decide_eq_true_eq] at h
  exact h1 h.2.2.2
def zgrd (h : zH) (f : Nat) (x y z b : Int32) : zH := zupI (zupI (zupI (zupI h (751 + 3 * f) 5 x) (751 + 3 * f) 6 y) (751 + 3 * f) 7 z) (751 + 3 * f) 8 b
theorem zK_grd {h : zH} (hw : zWk h) {f : Nat} {x y z b : Int32} (hf : f < 10) (hb : zBo b) : zWk (zgrd h f x y z b) := zK_I (zK_I (zK_I (zK_I hw (zTok_f (zS_fun f hf) (fun e => by cases e))) (zTok_f (zS_fun f hf) (fun e => by cases e))) (zTok_f (zS_fun f hf) (fun e => by cases e))) (zTok_f (zS_fun f hf) (fun _ => hb))
theorem zK_app {h : zH} (hw : zWk h) {f n : Nat} {c x : Int32} (hf : f < 10) : zWk (zapp h f n c x) := by
  unfold zapp
  split
  · exact zK_I (zK_I (zK_I hw (zTok_o (zS_fops f hf) (by decide) (by decide) (by decide) (by decide))) (zTok_o (zS_fnum f hf) (by decide) (by decide) (by decide) (by decide))) (zTok_f (zS_fun f hf) (fun e => by cases e))
  · exact hw
set_option maxHeartbeats 400000 in
set_option maxRecDepth 20000 in
theorem c_code {κ : zK} (hκ : zKg κ) {f k : Nat} (hf : f < 9) {c n : Int32} (hc : vp_nar .char c = c) (hok : zokC c n = true) (hk20 : k < 20) (h : zH) (hw : zWk h) (hx : zwithin (nI f) (h.1 1 2) = true) (hk : h.1 (751 + 3 * f) 4 = nI k) : zRet κ 91 [zr (some 0), zi (nI f), zi c, zi n] h (some (zi (nI k))) (zapp h f k c n) 0 0 := by
  refine zRet_of hκ (by decide) (by decide +kernel) (Nat.le_of_ble_eq_true rfl) fun ω C hK he => ?_
  refine z_aloadn C rfl rfl ?_
  refine z_iloadn C rfl rfl ?_
  refine z_callv C rfl ⟨by decide, by decide⟩ zS_0 (c_reqF (zKg_of C) _ hw hx) rfl rfl (Nat.le_of_ble_eq_true rfl) ⟨(Nat.le_of_ble_eq_true rfl), (Nat.le_of_ble_eq_true rfl)⟩ ?_
  refine z_ixop C rfl ?_ ⟨Nat.le_of_ble_eq_true rfl, Nat.le_of_ble_eq_true rfl⟩
  refine z_if C rfl (fun hc1 => ?_) (fun hc1 => ?_)
  · skip
    skip
    first | exact (zokC_1 hok hc1).elim | exact (zokC_2 hok hc2).elim | exact (zokC_3 hok hc3).elim
  · skip
    skip
    refine z_iloadn C rfl rfl ?_
    refine z_sipush C rfl ?_
    refine z_icmp C rfl (fun hc2 => ?_) (fun hc2 => ?_)
    · skip
      skip
      first | exact (zokC_1 hok hc1).elim | exact (zokC_2 hok hc2).elim | exact (zokC_3 hok hc3).elim
    · skip
      skip
      refine z_iloadn C rfl rfl ?_
      refine z_sipush C rfl ?_
      refine z_icmp C rfl (fun hc3 => ?_) (fun hc3 => ?_)
      · skip
        skip
        refine z_aloadn C rfl rfl ?_
        refine z_gets C rfl zS_0 rfl hw.1.1.1.1 ?_
        refine z_gets C rfl zS_1 rfl (zfunF hw) ?_
        refine z_iloadn C rfl rfl ?_
        refine z_aalds C rfl zS_330 (by decide) (by decide) (zin (n := 9) hf (by decide)) (by rw [zclamp (n := 9) hf (by decide)]; exact zfunA hw hf) ?_
        refine z_astore C rfl ?_
        refine z_aload C rfl rfl ?_
        refine z_geti C rfl (zS_fun f (by omega)) rfl ?_
        rw [hk]
        refine z_bipush C rfl ?_
        refine z_icmp C rfl (fun hc4 => ?_) (fun hc4 => ?_)
        · skip
          skip
          refine z_aload C rfl rfl ?_
          refine z_iloadn C rfl rfl ?_
          refine z_iloadn C rfl rfl ?_
          refine z_callv C rfl ⟨by decide, by decide⟩ (zS_fun f (by omega)) (c_append (zKg_of C) (show f < 10 by omega) (Nat.le_of_lt hk20) hc _ hw.1.1 hk) rfl rfl (Nat.le_of_ble_eq_true rfl) ⟨(Nat.le_of_ble_eq_true rfl), (Nat.le_of_ble_eq_true rfl)⟩ ?_
          exact z_ireturn C rfl he ⟨Nat.le_refl _, Nat.le_refl _⟩ rfl
        · skip
          skip
          exact absurd (nI_lt (a := k) (b := 20) (by omega) (by decide)) hc4
      · skip
        skip
        first | exact (zokC_1 hok hc1).elim | exact (zokC_2 hok hc2).elim | exact (zokC_3 hok hc3).elim

set_option maxHeartbeats 400000 in
set_option maxRecDepth 20000 in
theorem t_code1 {κ : zK} (hκ : zKg κ) {x c n : Int32} (h : zH) (hw : zWk h) (hx : zwithin x (h.1 1 2) = false) : zThr κ 91 [zr (some 0), zi x, zi c, zi n] h 4 h 1 6 := by
  refine zThr_of hκ (by decide) (by decide +kernel) (Nat.le_of_ble_eq_true rfl) fun ω C hK he => ?_
  refine z_aloadn C rfl rfl ?_
  refine z_iloadn C rfl rfl ?_
  exact z_callvX C rfl ⟨by decide, by decide⟩ zS_0 (by decide +kernel) he (t_reqF (zKg_of C) _ hw hx) rfl rfl (Nat.le_of_ble_eq_true rfl) ⟨(Nat.le_of_ble_eq_true rfl), (Nat.le_of_ble_eq_true rfl)⟩

set_option maxHeartbeats 400000 in
set_option maxRecDepth 20000 in
theorem t_code2 {κ : zK} (hκ : zKg κ) {x c n : Int32} (hok : zokC c n = false) (h : zH) (hw : zWk h) (hx : zwithin x (h.1 1 2) = true) : zThr κ 91 [zr (some 0), zi x, zi c, zi n] h 0 h 1 6 := by
  refine zThr_of hκ (by decide) (by decide +kernel) (Nat.le_of_ble_eq_true rfl) fun ω C hK he => ?_
  refine z_aloadn C rfl rfl ?_
  refine z_iloadn C rfl rfl ?_
  refine z_callv C rfl ⟨by decide, by decide⟩ zS_0 (c_reqF (zKg_of C) _ hw hx) rfl rfl (Nat.le_of_ble_eq_true rfl) ⟨(Nat.le_of_ble_eq_true rfl), (Nat.le_of_ble_eq_true rfl)⟩ ?_
  refine z_ixop C rfl ?_ ⟨Nat.le_of_ble_eq_true rfl, Nat.le_of_ble_eq_true rfl⟩
  refine z_if C rfl (fun hc1 => ?_) (fun hc1 => ?_)
  · skip
    skip
    exact z_throw C (i := 32) (E := 0) (by decide +kernel) (by decide +kernel) (by decide +kernel) he (Nat.le_of_ble_eq_true rfl) ⟨Nat.le_refl _, Nat.le_refl _⟩
  · skip
    skip
    refine z_iloadn C rfl rfl ?_
    refine z_sipush C rfl ?_
    refine z_icmp C rfl (fun hc2 => ?_) (fun hc2 => ?_)
    · skip
      skip
      exact z_throw C (i := 32) (E := 0) (by decide +kernel) (by decide +kernel) (by decide +kernel) he (Nat.le_of_ble_eq_true rfl) ⟨Nat.le_refl _, Nat.le_refl _⟩
    · skip
      skip
      refine z_iloadn C rfl rfl ?_
      refine z_sipush C rfl ?_
      refine z_icmp C rfl (fun hc3 => ?_) (fun hc3 => ?_)
      · skip
        skip
        exact absurd (zokC_t hc1 hc2 hc3) (by rw [hok]; decide)
      · skip
        skip
        exact z_throw C (i := 32) (E := 0) (by decide +kernel) (by decide +kernel) (by decide +kernel) he (Nat.le_of_ble_eq_true rfl) ⟨Nat.le_refl _, Nat.le_refl _⟩

set_option maxHeartbeats 400000 in
set_option maxRecDepth 20000 in
theorem t_code3 {κ : zK} (hκ : zKg κ) {f : Nat} (hf : f < 9) {c n : Int32} (hok : zokC c n = true) (h : zH) (hw : zWk h) (hx : zwithin (nI f) (h.1 1 2) = true) (hk : h.1 (751 + 3 * f) 4 = nI 20) : zThr κ 91 [zr (some 0), zi (nI f), zi c, zi n] h 5 h 1 6 := by
  refine zThr_of hκ (by decide) (by decide +kernel) (Nat.le_of_ble_eq_true rfl) fun ω C hK he => ?_
  refine z_aloadn C rfl rfl ?_
  refine z_iloadn C rfl rfl ?_
  refine z_callv C rfl ⟨by decide, by decide⟩ zS_0 (c_reqF (zKg_of C) _ hw hx) rfl rfl (Nat.le_of_ble_eq_true rfl) ⟨(Nat.le_of_ble_eq_true rfl), (Nat.le_of_ble_eq_true rfl)⟩ ?_
  refine z_ixop C rfl ?_ ⟨Nat.le_of_ble_eq_true rfl, Nat.le_of_ble_eq_true rfl⟩
  refine z_if C rfl (fun hc1 => ?_) (fun hc1 => ?_)
  · skip
    skip
    first | exact (zokC_1 hok hc1).elim | exact (zokC_2 hok hc2).elim | exact (zokC_3 hok hc3).elim
  · skip
    skip
    refine z_iloadn C rfl rfl ?_
    refine z_sipush C rfl ?_
    refine z_icmp C rfl (fun hc2 => ?_) (fun hc2 => ?_)
    · skip
      skip
      first | exact (zokC_1 hok hc1).elim | exact (zokC_2 hok hc2).elim | exact (zokC_3 hok hc3).elim
    · skip
      skip
      refine z_iloadn C rfl rfl ?_
      refine z_sipush C rfl ?_
      refine z_icmp C rfl (fun hc3 => ?_) (fun hc3 => ?_)
      · skip
        skip
        refine z_aloadn C rfl rfl ?_
        refine z_gets C rfl zS_0 rfl hw.1.1.1.1 ?_
        refine z_gets C rfl zS_1 rfl (zfunF hw) ?_
        refine z_iloadn C rfl rfl ?_
        refine z_aalds C rfl zS_330 (by decide) (by decide) (zin (n := 9) hf (by decide)) (by rw [zclamp (n := 9) hf (by decide)]; exact zfunA hw hf) ?_
        refine z_astore C rfl ?_
        refine z_aload C rfl rfl ?_
        refine z_geti C rfl (zS_fun f (by omega)) rfl ?_
        rw [hk]
        refine z_bipush C rfl ?_
        refine z_icmp C rfl (fun hc4 => ?_) (fun hc4 => ?_)
        · skip
          skip
          exact absurd hc4 (nI_nlt (a := 20) (b := 20) (Nat.le_refl _) (by decide))
        · skip
          skip
          exact z_throw C (i := 43) (E := 5) (by decide +kernel) (by decide +kernel) (by decide +kernel) he (Nat.le_of_ble_eq_true rfl) ⟨Nat.le_refl _, Nat.le_refl _⟩
      · skip
        skip
        first | exact (zokC_1 hok hc1).elim | exact (zokC_2 hok hc2).elim | exact (zokC_3 hok hc3).elim

set_option maxHeartbeats 400000 in
set_option maxRecDepth 20000 in
theorem c_guard {κ : zK} (hκ : zKg κ) {f : Nat} (hf : f < 9) {x y z b : Int32} (hb : zBo b) (hok : zokU x y z = true) (h : zH) (hw : zWk h) (hx : zwithin (nI f) (h.1 1 2) = true) : zRet κ 92 [zr (some 0), zi (nI f), zi x, zi y, zi z, zi b] h (some (zi (zB (decide (0 ≤ h.1 (751 + 3 * f) 7))))) (zgrd h f x y z b) 0 0 := by
  refine zRet_of hκ (by decide) (by decide +kernel) (Nat.le_of_ble_eq_true rfl) fun ω C hK he => ?_
  have k28 : ∀ v : Int32, v = zB (zwithin x (Int32.ofInt (Int.ofNat 20)) && zwithin y (Int32.ofInt (Int.ofNat 20))) → ZG ω 92 28 [(0, zr (some 0)), (1, zi (nI f)), (2, zi x), (3, zi y), (4, zi z), (5, zi b)] [zi v] h 0 0 := by
    intro v hv
    subst hv
    refine z_istore C rfl ?_
    refine z_iload C rfl rfl ?_
    refine z_if C rfl (fun hc1 => ?_) (fun hc1 => ?_)
    · skip
      skip
      first | exact (zokU_1 hok hc1).elim | exact (zokU_2 hok hc2).elim | exact (zokU_3 hok hc3).elim | exact (zokU_4 hok hc4).elim
    · skip
      skip
      refine z_iload C rfl rfl ?_
      refine z_iconst C rfl ?_
      refine z_icmp C rfl (fun hc2 => ?_) (fun hc2 => ?_)
      · skip
        skip
        first | exact (zokU_1 hok hc1).elim | exact (zokU_2 hok hc2).elim | exact (zokU_3 hok hc3).elim | exact (zokU_4 hok hc4).elim
      · skip
        skip
        refine z_iload C rfl rfl ?_
        refine z_bipush C rfl ?_
        refine z_icmp C rfl (fun hc3 => ?_) (fun hc3 => ?_)
        · skip
          skip
          first | exact (zokU_1 hok hc1).elim | exact (zokU_2 hok hc2).elim | exact (zokU_3 hok hc3).elim | exact (zokU_4 hok hc4).elim
        · skip
          skip
          refine z_iloadn C rfl rfl ?_
          refine z_iloadn C rfl rfl ?_
          refine z_icmp C rfl (fun hc4 => ?_) (fun hc4 => ?_)
          · skip
            skip
            refine z_aloadn C rfl rfl ?_
            refine z_gets C rfl zS_0 rfl hw.1.1.1.1 ?_
            refine z_gets C rfl zS_1 rfl (zfunF hw) ?_
            refine z_iloadn C rfl rfl ?_
            refine z_aalds C rfl zS_330 (by decide) (by decide) (zin (n := 9) hf (by decide)) (by rw [zclamp (n := 9) hf (by decide)]; exact zfunA hw hf) ?_
            refine z_astore C rfl ?_
            refine z_aload C rfl rfl ?_
            refine z_geti C rfl (zS_fun f (by omega)) rfl ?_
            refine z_if C rfl (fun hc5 => ?_) (fun hc5 => ?_)
            · skip
              skip
              refine z_iconst C rfl ?_
              refine z_istore C rfl ?_
              refine z_aload C rfl rfl ?_
              refine z_iloadn C rfl rfl ?_
              refine z_puti C rfl (zS_fun f (by omega)) rfl ⟨_, rfl⟩ ?_
              refine z_aload C rfl rfl ?_
              refine z_iloadn C rfl rfl ?_
              refine z_puti C rfl (zS_fun f (by omega)) rfl ⟨_, rfl⟩ ?_
              refine z_aload C rfl rfl ?_
              refine z_iload C rfl rfl ?_
              refine z_puti C rfl (zS_fun f (by omega)) rfl ⟨_, rfl⟩ ?_
              refine z_aload C rfl rfl ?_
              refine z_iload C rfl rfl ?_
              refine z_puti C rfl (zS_fun f (by omega)) rfl ⟨_, rfl, hb⟩ ?_
              refine z_iload C rfl rfl ?_
              exact z_zreturn C rfl (zER_eq he (by first | (rw [decide_eq_false (Int32.not_le.mpr hc5)]; rfl) | (rw [decide_eq_true (Int32.not_lt.mp hc5)]; rfl)) rfl) ⟨Nat.le_refl _, Nat.le_refl _⟩ rfl rfl
            · skip
              skip
              refine z_iconst C rfl ?_
              refine z_goto C rfl ?_
              refine z_istore C rfl ?_
              refine z_aload C rfl rfl ?_
              refine z_iloadn C rfl rfl ?_
              refine z_puti C rfl (zS_fun f (by omega)) rfl ⟨_, rfl⟩ ?_
              refine z_aload C rfl rfl ?_
              refine z_iloadn C rfl rfl ?_
              refine z_puti C rfl (zS_fun f (by omega)) rfl ⟨_, rfl⟩ ?_
              refine z_aload C rfl rfl ?_
              refine z_iload C rfl rfl ?_
              refine z_puti C rfl (zS_fun f (by omega)) rfl ⟨_, rfl⟩ ?_
              refine z_aload C rfl rfl ?_
              refine z_iload C rfl rfl ?_
              refine z_puti C rfl (zS_fun f (by omega)) rfl ⟨_, rfl, hb⟩ ?_
              refine z_iload C rfl rfl ?_
              exact z_zreturn C rfl (zER_eq he (by first | (rw [decide_eq_false (Int32.not_le.mpr hc5)]; rfl) | (rw [decide_eq_true (Int32.not_lt.mp hc5)]; rfl)) rfl) ⟨Nat.le_refl _, Nat.le_refl _⟩ rfl rfl
          · skip
            skip
            first | exact (zokU_1 hok hc1).elim | exact (zokU_2 hok hc2).elim | exact (zokU_3 hok hc3).elim | exact (zokU_4 hok hc4).elim
  refine z_aloadn C rfl rfl ?_
  refine z_iloadn C rfl rfl ?_
  refine z_callv C rfl ⟨by decide, by decide⟩ zS_0 (c_reqF (zKg_of C) _ hw hx) rfl rfl (Nat.le_of_ble_eq_true rfl) ⟨(Nat.le_of_ble_eq_true rfl), (Nat.le_of_ble_eq_true rfl)⟩ ?_
  refine z_iloadn C rfl rfl ?_
  refine z_bipush C rfl ?_
  refine z_calls C rfl ⟨by decide, by decide, by decide⟩ (c_isWithin (zKg_of C) _) rfl rfl (Nat.le_of_ble_eq_true rfl) ⟨(Nat.le_of_ble_eq_true rfl), (Nat.le_of_ble_eq_true rfl)⟩ ?_
  refine z_if C rfl (fun hc1 => ?_) (fun hc1 => ?_)
  · skip
    skip
    refine z_iconst C rfl ?_
    exact z_ll [(0, zr (some 0)), (1, zi (nI f)), (2, zi x), (3, zi y), (4, zi z), (5, zi b)] ⟨rfl, rfl, rfl, rfl, rfl, rfl, trivial⟩ (k28 _ (by first | (rw [zbq1 hc1]; rfl) | (rw [zbq2 hc1, zbq1 hc2]; rfl) | (rw [zbq2 hc1, zbq2 hc2]; rfl)))
  · skip
    skip
    refine z_iloadn C rfl rfl ?_
    refine z_bipush C rfl ?_
    refine z_calls C rfl ⟨by decide, by decide, by decide⟩ (c_isWithin (zKg_of C) _) rfl rfl (Nat.le_of_ble_eq_true rfl) ⟨(Nat.le_of_ble_eq_true rfl), (Nat.le_of_ble_eq_true rfl)⟩ ?_
    refine z_if C rfl (fun hc2 => ?_) (fun hc2 => ?_)
    · skip
      skip
      refine z_iconst C rfl ?_
      exact z_ll [(0, zr (some 0)), (1, zi (nI f)), (2, zi x), (3, zi y), (4, zi z), (5, zi b)] ⟨rfl, rfl, rfl, rfl, rfl, rfl, trivial⟩ (k28 _ (by first | (rw [zbq1 hc1]; rfl) | (rw [zbq2 hc1, zbq1 hc2]; rfl) | (rw [zbq2 hc1, zbq2 hc2]; rfl)))
    · skip
      skip
      refine z_iconst C rfl ?_
      refine z_goto C rfl ?_
      exact z_ll [(0, zr (some 0)), (1, zi (nI f)), (2, zi x), (3, zi y), (4, zi z), (5, zi b)] ⟨rfl, rfl, rfl, rfl, rfl, rfl, trivial⟩ (k28 _ (by first | (rw [zbq1 hc1]; rfl) | (rw [zbq2 hc1, zbq1 hc2]; rfl) | (rw [zbq2 hc1, zbq2 hc2]; rfl)))

set_option maxHeartbeats 400000 in
set_option maxRecDepth 20000 in
theorem t_guard2 {κ : zK} (hκ : zKg κ) {x0 x y z b : Int32} (hok : zokU x y z = false) (h : zH) (hw : zWk h) (hx : zwithin x0 (h.1 1 2) = true) : zThr κ 92 [zr (some 0), zi x0, zi x, zi y, zi z, zi b] h 0 h 1 6 := by
  refine zThr_of hκ (by decide) (by decide +kernel) (Nat.le_of_ble_eq_true rfl) fun ω C hK he => ?_
  have k28 : ∀ v : Int32, v = zB (zwithin x (Int32.ofInt (Int.ofNat 20)) && zwithin y (Int32.ofInt (Int.ofNat 20))) → ZG ω 92 28 [(0, zr (some 0)), (1, zi x0), (2, zi x), (3, zi y), (4, zi z), (5, zi b)] [zi v] h 0 0 := by
    intro v hv
    subst hv
    refine z_istore C rfl ?_
    refine z_iload C rfl rfl ?_
    refine z_if C rfl (fun hc1 => ?_) (fun hc1 => ?_)
    · skip
      skip
      exact z_throw C (i := 32) (E := 0) (by decide +kernel) (by decide +kernel) (by decide +kernel) he (Nat.le_of_ble_eq_true rfl) ⟨Nat.le_refl _, Nat.le_refl _⟩
    · skip
      skip
      refine z_iload C rfl rfl ?_
      refine z_iconst C rfl ?_
      refine z_icmp C rfl (fun hc2 => ?_) (fun hc2 => ?_)
      · skip
        skip
        exact z_throw C (i := 32) (E := 0) (by decide +kernel) (by decide +kernel) (by decide +kernel) he (Nat.le_of_ble_eq_true rfl) ⟨Nat.le_refl _, Nat.le_refl _⟩
      · skip
        skip
        refine z_iload C rfl rfl ?_
        refine z_bipush C rfl ?_
        refine z_icmp C rfl (fun hc3 => ?_) (fun hc3 => ?_)
        · skip
          skip
          exact z_throw C (i := 32) (E := 0) (by decide +kernel) (by decide +kernel) (by decide +kernel) he (Nat.le_of_ble_eq_true rfl) ⟨Nat.le_refl _, Nat.le_refl _⟩
        · skip
          skip
          refine z_iloadn C rfl rfl ?_
          refine z_iloadn C rfl rfl ?_
          refine z_icmp C rfl (fun hc4 => ?_) (fun hc4 => ?_)
          · skip
            skip
            exact absurd (zokU_t hc1 hc2 hc3 hc4) (by rw [hok]; decide)
          · skip
            skip
            exact z_throw C (i := 32) (E := 0) (by decide +kernel) (by decide +kernel) (by decide +kernel) he (Nat.le_of_ble_eq_true rfl) ⟨Nat.le_refl _, Nat.le_refl _⟩
  refine z_aloadn C rfl rfl ?_
  refine z_iloadn C rfl rfl ?_
  refine z_callv C rfl ⟨by decide, by decide⟩ zS_0 (c_reqF (zKg_of C) _ hw hx) rfl rfl (Nat.le_of_ble_eq_true rfl) ⟨(Nat.le_of_ble_eq_true rfl), (Nat.le_of_ble_eq_true rfl)⟩ ?_
  refine z_iloadn C rfl rfl ?_
  refine z_bipush C rfl ?_
  refine z_calls C rfl ⟨by decide, by decide, by decide⟩ (c_isWithin (zKg_of C) _) rfl rfl (Nat.le_of_ble_eq_true rfl) ⟨(Nat.le_of_ble_eq_true rfl), (Nat.le_of_ble_eq_true rfl)⟩ ?_
  refine z_if C rfl (fun hc1 => ?_) (fun hc1 => ?_)
  · skip
    skip
    refine z_iconst C rfl ?_
    exact z_ll [(0, zr (some 0)), (1, zi x0), (2, zi x), (3, zi y), (4, zi z), (5, zi b)] ⟨rfl, rfl, rfl, rfl, rfl, rfl, trivial⟩ (k28 _ (by first | (rw [zbq1 hc1]; rfl) | (rw [zbq2 hc1, zbq1 hc2]; rfl) | (rw [zbq2 hc1, zbq2 hc2]; rfl)))
  · skip
    skip
    refine z_iloadn C rfl rfl ?_
    refine z_bipush C rfl ?_
    refine z_calls C rfl ⟨by decide, by decide, by decide⟩ (c_isWithin (zKg_of C) _) rfl rfl (Nat.le_of_ble_eq_true rfl) ⟨(Nat.le_of_ble_eq_true rfl), (Nat.le_of_ble_eq_true rfl)⟩ ?_
    refine z_if C rfl (fun hc2 => ?_) (fun hc2 => ?_)
    · skip
      skip
      refine z_iconst C rfl ?_
      exact z_ll [(0, zr (some 0)), (1, zi x0), (2, zi x), (3, zi y), (4, zi z), (5, zi b)] ⟨rfl, rfl, rfl, rfl, rfl, rfl, trivial⟩ (k28 _ (by first | (rw [zbq1 hc1]; rfl) | (rw [zbq2 hc1, zbq1 hc2]; rfl) | (rw [zbq2 hc1, zbq2 hc2]; rfl)))
    · skip
      skip
      refine z_iconst C rfl ?_
      refine z_goto C rfl ?_
      exact z_ll [(0, zr (some 0)), (1, zi x0), (2, zi x), (3, zi y), (4, zi z), (5, zi b)] ⟨rfl, rfl, rfl, rfl, rfl, rfl, trivial⟩ (k28 _ (by first | (rw [zbq1 hc1]; rfl) | (rw [zbq2 hc1, zbq1 hc2]; rfl) | (rw [zbq2 hc1, zbq2 hc2]; rfl)))

set_option maxHeartbeats 400000 in
set_option maxRecDepth 20000 in
theorem t_guard1 {κ : zK} (hκ : zKg κ) {x0 x y z b : Int32} (h : zH) (hw : zWk h) (hx : zwithin x0 (h.1 1 2) = false) : zThr κ 92 [zr (some 0), zi x0, zi x, zi y, zi z, zi b] h 4 h 1 6 := by
  refine zThr_of hκ (by decide) (by decide +kernel) (Nat.le_of_ble_eq_true rfl) fun ω C hK he => ?_
  refine z_aloadn C rfl rfl ?_
  refine z_iloadn C rfl rfl ?_
  exact z_callvX C rfl ⟨by decide, by decide⟩ zS_0 (by decide +kernel) he (t_reqF (zKg_of C) _ hw hx) rfl rfl (Nat.le_of_ble_eq_true rfl) ⟨(Nat.le_of_ble_eq_true rfl), (Nat.le_of_ble_eq_true rfl)⟩

