/-! the law's call, by what it is asked -/
section ZOH
variable {κ : zK} {i : Nat} {as : List zV} {h h1 : zH} {mc ms : Nat}
theorem z_ofH {Qc : Array Value → State → Outcome → State → Prop} {XC : String → State → State → Prop} (hκ : zKg κ) (hi : i < 131) (hh : xHH i ≠ []) (hsum : zsum as ≤ xML i)
    (body : ∀ ω : zO, zX ω i → oK ω = κ → oQ ω = vx_MQ (oB ω) Qc XC (oA ω) (oS ω) mc ms (zfr (oK ω)) → (oR ω).cells = mc → (oR ω).slots = ms → (oC ω).exceptionTable.toList = tableOf (xHH i) → ZG ω i 0 (zargs as 0) [] h 0 0) : vx_Met (kL κ) (xY i) (xws i) (zrm i mc ms) (zPc κ as h) Qc XC mc ms (zfr κ) := by
  obtain ⟨f1, f2, f3, ⟨f4, f5⟩, f6, f7⟩ := xmf_ok hi
  have hL0 := lv_entry (n := xML i) (as.map (zD (kρ κ))) (by rw [zargs_sl]; exact hsum)
  rw [← zargs_eq] at hL0
  refine vx_ofWH (cc := xBy i) (maxL := xML i) (ret := xRt i) (hh := xHH i) f1 (by unfold xws; rw [xcw_cons hh]) fun p e s m args below meth c s₁ BL hml hP => ?_
  obtain ⟨⟨hav, hWd, hRel⟩, hXs⟩ := hP
  subst hav
  have hws := atoms_spec (ws := xws i) BL.pre
  have hts : ∀ w ∈ xgw, w.before (as.map (zD (kρ κ))).toArray s = true := fun w hw => hws w (List.mem_cons_of_mem _ hw)
  have hs0 : ∀ q : Nat, q < (kρ κ).1 → s.heap[q]? = (kH κ)[q]? := fun q hq => hRel.2.1.2.1 q (by have := hRel.2.2; omega) (fun h => by have h : (kρ κ).1 ≤ q := h; omega)
  have htab := vx_table (x := xY i) (maxL' := xML i) (ret' := xRt i) BL (hws (Cond.codeWith (xY i) (xBy i) (xML i) (xRt i) (xHH i)) (by unfold xws; rw [xcw_cons hh]; exact List.mem_cons_self))
  have C : zX (κ, p, e, (headSpec (xws i) (zrm i mc ms)).room, s, m, (as.map (zD (kρ κ))).toArray, below, meth, c, vx_MQ below Qc XC (as.map (zD (kρ κ))).toArray s mc ms (zfr κ)) i :=
    ⟨⟨BL.exec, BL.bytes, hml, findClass_of_methodNamed BL.named, (name_of_methodNamed BL.named BL.method).1⟩, hts, ⟨hWd, hXs, hκ.2, hs0⟩, (show i < 132 by omega), Nat.le_refl _, Nat.le_refl _, BL.returns, BL.notSynchronized, fun e => absurd e hh, hκ.1⟩
  have hb := body _ C rfl rfl rfl rfl htab
  rw [lg_entry_eq]
  exact hb s.heap [] _ hRel hL0
theorem zRet_ofH {v : Option zV} (hκ : zKg κ) (hi : i < 131) (hh : xHH i ≠ []) (hsum : zsum as ≤ xML i)
    (body : ∀ ω : zO, zX ω i → oK ω = κ → zER ω v h1 mc ms → (oC ω).exceptionTable.toList = tableOf (xHH i) → ZG ω i 0 (zargs as 0) [] h 0 0) : zRet κ i as h v h1 mc ms := z_ofH hκ hi hh hsum fun ω C e1 e2 e3 e4 ht => body ω C e1 (by subst e1; exact ⟨e2, e3, e4⟩) ht
theorem zRq_ofH {Q : Option zV → zH → Prop} (hκ : zKg κ) (hi : i < 131) (hh : xHH i ≠ []) (hsum : zsum as ≤ xML i)
    (body : ∀ ω : zO, zX ω i → oK ω = κ → zEq ω Q mc ms → ZG ω i 0 (zargs as 0) [] h 0 0) : zRq κ i as h Q mc ms := z_ofH hκ hi hh hsum fun ω C e1 e2 e3 e4 _ => body ω C e1 (by subst e1; exact ⟨e2, e3, e4⟩)
end ZOH
set_option maxHeartbeats 400000 in
set_option maxRecDepth 20000 in
theorem w_0 {κ : zK} (hκ : zKg κ) {a b c d : Int32} {v : Int32} {h h1 : zH} {mc ms : Nat} (hM : zRet κ 90 [zr (some 0), zi a, zi b] h (some (zi v)) h1 mc ms) : zRet κ 128 [zr (some 0), zi (Int32.ofInt (Int.ofNat 0)), zi a, zi b, zi c, zi d] h (some (zi v)) h1 mc ms := by
  refine zRet_ofH hκ (by decide) (by decide) (Nat.le_of_ble_eq_true rfl) fun ω C hK he htab => ?_
  subst hK
  refine z_iloadn C rfl rfl ?_
  refine z_tsIn (off := 107) (tgt := 108) C rfl (by decide) (by decide) (by decide) (by decide) ?_
  refine z_aloadn C rfl rfl ?_
  refine z_iloadn C rfl rfl ?_
  refine z_iloadn C rfl rfl ?_
  refine z_callv C rfl ⟨by decide, by decide⟩ zS_0 hM rfl rfl (Nat.le_of_ble_eq_true rfl) ⟨by rw [he.2.1]; exact Nat.le_of_eq (Nat.zero_add _), by rw [he.2.2]; exact Nat.le_of_eq (Nat.zero_add _)⟩ ?_
  exact z_ireturn C rfl he ⟨Nat.le_of_eq (Nat.zero_add _), Nat.le_of_eq (Nat.zero_add _)⟩ rfl

set_option maxHeartbeats 400000 in
set_option maxRecDepth 20000 in
theorem x_0 {κ : zK} (hκ : zKg κ) {a b c d : Int32} {E hp : Nat} {vv : Int32} {h h1 : zH} {mc ms : Nat} (hE : zcn E ∈ [98, 100, 102, 104, 106] ∧ zct E 111 (xHH 128) = some hp ∧ zhv hp = some vv) (hM : zThr κ 90 [zr (some 0), zi a, zi b] h E h1 mc ms) : zRet κ 128 [zr (some 0), zi (Int32.ofInt (Int.ofNat 0)), zi a, zi b, zi c, zi d] h (some (zi vv)) h1 mc ms := by
  refine zRet_ofH hκ (by decide) (by decide) (Nat.le_of_ble_eq_true rfl) fun ω C hK he htab => ?_
  subst hK
  refine z_iloadn C rfl rfl ?_
  refine z_tsIn (off := 107) (tgt := 108) C rfl (by decide) (by decide) (by decide) (by decide) ?_
  refine z_aloadn C rfl rfl ?_
  refine z_iloadn C rfl rfl ?_
  refine z_iloadn C rfl rfl ?_
  exact z_callvC C htab rfl ⟨by decide, by decide⟩ zS_0 hE he hM rfl rfl (Nat.le_of_ble_eq_true rfl) ⟨Nat.le_of_eq (Nat.zero_add _), Nat.le_of_eq (Nat.zero_add _)⟩

set_option maxHeartbeats 400000 in
set_option maxRecDepth 20000 in
theorem w_1 {κ : zK} (hκ : zKg κ) {a b c d : Int32} {v : Int32} {h h1 : zH} {mc ms : Nat} (hM : zRet κ 91 [zr (some 0), zi a, zi (b.toUInt32 % 65536).toInt32, zi c] h (some (zi v)) h1 mc ms) : zRet κ 128 [zr (some 0), zi (Int32.ofInt (Int.ofNat 1)), zi a, zi b, zi c, zi d] h (some (zi v)) h1 mc ms := by
  refine zRet_ofH hκ (by decide) (by decide) (Nat.le_of_ble_eq_true rfl) fun ω C hK he htab => ?_
  subst hK
  refine z_iloadn C rfl rfl ?_
  refine z_tsIn (off := 114) (tgt := 115) C rfl (by decide) (by decide) (by decide) (by decide) ?_
  refine z_aloadn C rfl rfl ?_
  refine z_iloadn C rfl rfl ?_
  refine z_iloadn C rfl rfl ?_
  refine z_i2c C (by decide +kernel) ?_
  refine z_iload C rfl rfl ?_
  refine z_callv C rfl ⟨by decide, by decide⟩ zS_0 hM rfl rfl (Nat.le_of_ble_eq_true rfl) ⟨by rw [he.2.1]; exact Nat.le_of_eq (Nat.zero_add _), by rw [he.2.2]; exact Nat.le_of_eq (Nat.zero_add _)⟩ ?_
  exact z_ireturn C rfl he ⟨Nat.le_of_eq (Nat.zero_add _), Nat.le_of_eq (Nat.zero_add _)⟩ rfl

set_option maxHeartbeats 400000 in
set_option maxRecDepth 20000 in
theorem x_1 {κ : zK} (hκ : zKg κ) {a b c d : Int32} {E hp : Nat} {vv : Int32} {h h1 : zH} {mc ms : Nat} (hE : zcn E ∈ [98, 100, 102, 104, 106] ∧ zct E 121 (xHH 128) = some hp ∧ zhv hp = some vv) (hM : zThr κ 91 [zr (some 0), zi a, zi (b.toUInt32 % 65536).toInt32, zi c] h E h1 mc ms) : zRet κ 128 [zr (some 0), zi (Int32.ofInt (Int.ofNat 1)), zi a, zi b, zi c, zi d] h (some (zi vv)) h1 mc ms := by
  refine zRet_ofH hκ (by decide) (by decide) (Nat.le_of_ble_eq_true rfl) fun ω C hK he htab => ?_
  subst hK
  refine z_iloadn C rfl rfl ?_
  refine z_tsIn (off := 114) (tgt := 115) C rfl (by decide) (by decide) (by decide) (by decide) ?_
  refine z_aloadn C rfl rfl ?_
  refine z_iloadn C rfl rfl ?_
  refine z_iloadn C rfl rfl ?_
  refine z_i2c C (by decide +kernel) ?_
  refine z_iload C rfl rfl ?_
  exact z_callvC C htab rfl ⟨by decide, by decide⟩ zS_0 hE he hM rfl rfl (Nat.le_of_ble_eq_true rfl) ⟨Nat.le_of_eq (Nat.zero_add _), Nat.le_of_eq (Nat.zero_add _)⟩

set_option maxHeartbeats 400000 in
set_option maxRecDepth 20000 in
theorem w_2 {κ : zK} (hκ : zKg κ) {a b c d : Int32} {v : Int32} {h h1 : zH} {mc ms : Nat} (hM : zRet κ 92 [zr (some 0), zi a, zi (b / 100), zi (b - b / 100 * 100), zi c, zi (zB (decide (d = 1)))] h (some (zi v)) h1 mc ms) : zRet κ 128 [zr (some 0), zi (Int32.ofInt (Int.ofNat 2)), zi a, zi b, zi c, zi d] h (some (zi (if v = 0 then 0 else 1))) h1 mc ms := by
  refine zRet_ofH hκ (by decide) (by decide) (Nat.le_of_ble_eq_true rfl) fun ω C hK he htab => ?_
  subst hK
  have k148 : ∀ w : Int32, w = zB (decide (d = 1)) → ZG ω 128 148 [(0, zr (some 0))] [zi w, zi c, zi (b - b / 100 * 100), zi (b / 100), zi a, zr (some 0)] h 0 0 := by
    intro w hw
    subst hw
    refine z_callv C rfl ⟨by decide, by decide⟩ zS_0 (hM) rfl rfl (Nat.le_of_ble_eq_true rfl) ⟨by rw [he.2.1]; exact Nat.le_of_eq (Nat.zero_add _), by rw [he.2.2]; exact Nat.le_of_eq (Nat.zero_add _)⟩ ?_
    refine z_if C rfl (fun hc1 => ?_) (fun hc1 => ?_)
    · skip
      skip
      refine z_iconst C rfl ?_
      exact z_ireturn C rfl (zER_eq he (by first | (rw [if_pos (show v = 0 from hc1)]; rfl) | (rw [if_neg (show ¬ v = 0 from hc1)]; rfl)) rfl) ⟨Nat.le_of_eq (Nat.zero_add _), Nat.le_of_eq (Nat.zero_add _)⟩ rfl
    · skip
      skip
      refine z_iconst C rfl ?_
      refine z_goto C rfl ?_
      exact z_ireturn C rfl (zER_eq he (by first | (rw [if_pos (show v = 0 from hc1)]; rfl) | (rw [if_neg (show ¬ v = 0 from hc1)]; rfl)) rfl) ⟨Nat.le_of_eq (Nat.zero_add _), Nat.le_of_eq (Nat.zero_add _)⟩ rfl
  refine z_iloadn C rfl rfl ?_
  refine z_tsIn (off := 124) (tgt := 125) C rfl (by decide) (by decide) (by decide) (by decide) ?_
  refine z_aloadn C rfl rfl ?_
  refine z_iloadn C rfl rfl ?_
  refine z_iloadn C rfl rfl ?_
  refine z_bipush C rfl ?_
  refine z_idiv C rfl (by decide) ?_
  refine z_iloadn C rfl rfl ?_
  refine z_bipush C rfl ?_
  refine z_irem C rfl (by decide) ?_
  refine z_iload C rfl rfl ?_
  refine z_iload C rfl rfl ?_
  refine z_iconst C rfl ?_
  refine z_icmp C rfl (fun hc1 => ?_) (fun hc1 => ?_)
  · skip
    skip
    refine z_iconst C rfl ?_
    exact z_ll [(0, zr (some 0))] ⟨rfl, trivial⟩ (k148 _ (by first | (rw [decide_eq_false (show ¬ d = 1 from hc1)]; rfl) | (rw [decide_eq_true (show d = 1 from Decidable.of_not_not hc1)]; rfl)))
  · skip
    skip
    refine z_iconst C rfl ?_
    refine z_goto C rfl ?_
    exact z_ll [(0, zr (some 0))] ⟨rfl, trivial⟩ (k148 _ (by first | (rw [decide_eq_false (show ¬ d = 1 from hc1)]; rfl) | (rw [decide_eq_true (show d = 1 from Decidable.of_not_not hc1)]; rfl)))

set_option maxHeartbeats 400000 in
set_option maxRecDepth 20000 in
theorem x_2 {κ : zK} (hκ : zKg κ) {a b c d : Int32} {E hp : Nat} {vv : Int32} {h h1 : zH} {mc ms : Nat} (hE : zcn E ∈ [98, 100, 102, 104, 106] ∧ zct E 148 (xHH 128) = some hp ∧ zhv hp = some vv) (hM : zThr κ 92 [zr (some 0), zi a, zi (b / 100), zi (b - b / 100 * 100), zi c, zi (zB (decide (d = 1)))] h E h1 mc ms) : zRet κ 128 [zr (some 0), zi (Int32.ofInt (Int.ofNat 2)), zi a, zi b, zi c, zi d] h (some (zi vv)) h1 mc ms := by
  refine zRet_ofH hκ (by decide) (by decide) (Nat.le_of_ble_eq_true rfl) fun ω C hK he htab => ?_
  subst hK
  have k148 : ∀ w : Int32, w = zB (decide (d = 1)) → ZG ω 128 148 [(0, zr (some 0))] [zi w, zi c, zi (b - b / 100 * 100), zi (b / 100), zi a, zr (some 0)] h 0 0 := by
    intro w hw
    subst hw
    exact z_callvC C htab rfl ⟨by decide, by decide⟩ zS_0 hE he hM rfl rfl (Nat.le_of_ble_eq_true rfl) ⟨Nat.le_of_eq (Nat.zero_add _), Nat.le_of_eq (Nat.zero_add _)⟩
  refine z_iloadn C rfl rfl ?_
  refine z_tsIn (off := 124) (tgt := 125) C rfl (by decide) (by decide) (by decide) (by decide) ?_
  refine z_aloadn C rfl rfl ?_
  refine z_iloadn C rfl rfl ?_
  refine z_iloadn C rfl rfl ?_
  refine z_bipush C rfl ?_
  refine z_idiv C rfl (by decide) ?_
  refine z_iloadn C rfl rfl ?_
  refine z_bipush C rfl ?_
  refine z_irem C rfl (by decide) ?_
  refine z_iload C rfl rfl ?_
  refine z_iload C rfl rfl ?_
  refine z_iconst C rfl ?_
  refine z_icmp C rfl (fun hc1 => ?_) (fun hc1 => ?_)
  · skip
    skip
    refine z_iconst C rfl ?_
    exact z_ll [(0, zr (some 0))] ⟨rfl, trivial⟩ (k148 _ (by first | (rw [decide_eq_false (show ¬ d = 1 from hc1)]; rfl) | (rw [decide_eq_true (show d = 1 from Decidable.of_not_not hc1)]; rfl)))
  · skip
    skip
    refine z_iconst C rfl ?_
    refine z_goto C rfl ?_
    exact z_ll [(0, zr (some 0))] ⟨rfl, trivial⟩ (k148 _ (by first | (rw [decide_eq_false (show ¬ d = 1 from hc1)]; rfl) | (rw [decide_eq_true (show d = 1 from Decidable.of_not_not hc1)]; rfl)))

set_option maxHeartbeats 400000 in
set_option maxRecDepth 20000 in
theorem x_3 {κ : zK} (hκ : zKg κ) {a b c d : Int32} {E hp : Nat} {vv : Int32} {h h1 : zH} {mc ms : Nat} (hE : zcn E ∈ [98, 100, 102, 104, 106] ∧ zct E 165 (xHH 128) = some hp ∧ zhv hp = some vv) (hM : zThr κ 93 [zr (some 0), zi a, zi b, zi c] h E h1 mc ms) : zRet κ 128 [zr (some 0), zi (Int32.ofInt (Int.ofNat 3)), zi a, zi b, zi c, zi d] h (some (zi vv)) h1 mc ms := by
  refine zRet_ofH hκ (by decide) (by decide) (Nat.le_of_ble_eq_true rfl) fun ω C hK he htab => ?_
  subst hK
  refine z_iloadn C rfl rfl ?_
  refine z_tsIn (off := 159) (tgt := 160) C rfl (by decide) (by decide) (by decide) (by decide) ?_
  refine z_aloadn C rfl rfl ?_
  refine z_iloadn C rfl rfl ?_
  refine z_iloadn C rfl rfl ?_
  refine z_iload C rfl rfl ?_
  exact z_callvC C htab rfl ⟨by decide, by decide⟩ zS_0 hE he hM rfl rfl (Nat.le_of_ble_eq_true rfl) ⟨Nat.le_of_eq (Nat.zero_add _), Nat.le_of_eq (Nat.zero_add _)⟩

set_option maxHeartbeats 400000 in
set_option maxRecDepth 20000 in
theorem w_4 {κ : zK} (hκ : zKg κ) {a b c d : Int32} {v : Int32} {h h1 : zH} {mc ms : Nat} (hM : zRet κ 94 [zr (some 0)] h (some (zi v)) h1 mc ms) : zRet κ 128 [zr (some 0), zi (Int32.ofInt (Int.ofNat 4)), zi a, zi b, zi c, zi d] h (some (zi v)) h1 mc ms := by
  refine zRet_ofH hκ (by decide) (by decide) (Nat.le_of_ble_eq_true rfl) fun ω C hK he htab => ?_
  subst hK
  refine z_iloadn C rfl rfl ?_
  refine z_tsIn (off := 168) (tgt := 169) C rfl (by decide) (by decide) (by decide) (by decide) ?_
  refine z_aloadn C rfl rfl ?_
  refine z_callv C rfl ⟨by decide, by decide⟩ zS_0 hM rfl rfl (Nat.le_of_ble_eq_true rfl) ⟨by rw [he.2.1]; exact Nat.le_of_eq (Nat.zero_add _), by rw [he.2.2]; exact Nat.le_of_eq (Nat.zero_add _)⟩ ?_
  exact z_ireturn C rfl he ⟨Nat.le_of_eq (Nat.zero_add _), Nat.le_of_eq (Nat.zero_add _)⟩ rfl

set_option maxHeartbeats 400000 in
set_option maxRecDepth 20000 in
theorem x_4 {κ : zK} (hκ : zKg κ) {a b c d : Int32} {E hp : Nat} {vv : Int32} {h h1 : zH} {mc ms : Nat} (hE : zcn E ∈ [98, 100, 102, 104, 106] ∧ zct E 170 (xHH 128) = some hp ∧ zhv hp = some vv) (hM : zThr κ 94 [zr (some 0)] h E h1 mc ms) : zRet κ 128 [zr (some 0), zi (Int32.ofInt (Int.ofNat 4)), zi a, zi b, zi c, zi d] h (some (zi vv)) h1 mc ms := by
  refine zRet_ofH hκ (by decide) (by decide) (Nat.le_of_ble_eq_true rfl) fun ω C hK he htab => ?_
  subst hK
  refine z_iloadn C rfl rfl ?_
  refine z_tsIn (off := 168) (tgt := 169) C rfl (by decide) (by decide) (by decide) (by decide) ?_
  refine z_aloadn C rfl rfl ?_
  exact z_callvC C htab rfl ⟨by decide, by decide⟩ zS_0 hE he hM rfl rfl (Nat.le_of_ble_eq_true rfl) ⟨Nat.le_of_eq (Nat.zero_add _), Nat.le_of_eq (Nat.zero_add _)⟩

set_option maxHeartbeats 400000 in
set_option maxRecDepth 20000 in
theorem w_6 {κ : zK} (hκ : zKg κ) {a b c d : Int32} {v : Int32} {h h1 : zH} {mc ms : Nat} (hM : zRet κ 97 [zr (some 0)] h (some (zi v)) h1 mc ms) : zRet κ 128 [zr (some 0), zi (Int32.ofInt (Int.ofNat 6)), zi a, zi b, zi c, zi d] h (some (zi v)) h1 mc ms := by
  refine zRet_ofH hκ (by decide) (by decide) (Nat.le_of_ble_eq_true rfl) fun ω C hK he htab => ?_
  subst hK
  refine z_iloadn C rfl rfl ?_
  refine z_tsIn (off := 179) (tgt := 180) C rfl (by decide) (by decide) (by decide) (by decide) ?_
  refine z_aloadn C rfl rfl ?_
  refine z_callv C rfl ⟨by decide, by decide⟩ zS_0 hM rfl rfl (Nat.le_of_ble_eq_true rfl) ⟨by rw [he.2.1]; exact Nat.le_of_eq (Nat.zero_add _), by rw [he.2.2]; exact Nat.le_of_eq (Nat.zero_add _)⟩ ?_
  exact z_ireturn C rfl he ⟨Nat.le_of_eq (Nat.zero_add _), Nat.le_of_eq (Nat.zero_add _)⟩ rfl

set_option maxHeartbeats 400000 in
set_option maxRecDepth 20000 in
theorem x_6 {κ : zK} (hκ : zKg κ) {a b c d : Int32} {E hp : Nat} {vv : Int32} {h h1 : zH} {mc ms : Nat} (hE : zcn E ∈ [98, 100, 102, 104, 106] ∧ zct E 181 (xHH 128) = some hp ∧ zhv hp = some vv) (hM : zThr κ 97 [zr (some 0)] h E h1 mc ms) : zRet κ 128 [zr (some 0), zi (Int32.ofInt (Int.ofNat 6)), zi a, zi b, zi c, zi d] h (some (zi vv)) h1 mc ms := by
  refine zRet_ofH hκ (by decide) (by decide) (Nat.le_of_ble_eq_true rfl) fun ω C hK he htab => ?_
  subst hK
  refine z_iloadn C rfl rfl ?_
  refine z_tsIn (off := 179) (tgt := 180) C rfl (by decide) (by decide) (by decide) (by decide) ?_
  refine z_aloadn C rfl rfl ?_
  exact z_callvC C htab rfl ⟨by decide, by decide⟩ zS_0 hE he hM rfl rfl (Nat.le_of_ble_eq_true rfl) ⟨Nat.le_of_eq (Nat.zero_add _), Nat.le_of_eq (Nat.zero_add _)⟩

set_option maxHeartbeats 400000 in
set_option maxRecDepth 20000 in
theorem w_7 {κ : zK} (hκ : zKg κ) {a b c d : Int32} {v : Int32} {h h1 : zH} {mc ms : Nat} (hM : zRet κ 98 [zr (some 0), zi a] h (some (zi v)) h1 mc ms) : zRet κ 128 [zr (some 0), zi (Int32.ofInt (Int.ofNat 7)), zi a, zi b, zi c, zi d] h (some (zi v)) h1 mc ms := by
  refine zRet_ofH hκ (by decide) (by decide) (Nat.le_of_ble_eq_true rfl) fun ω C hK he htab => ?_
  subst hK
  refine z_iloadn C rfl rfl ?_
  refine z_tsIn (off := 184) (tgt := 185) C rfl (by decide) (by decide) (by decide) (by decide) ?_
  refine z_aloadn C rfl rfl ?_
  refine z_iloadn C rfl rfl ?_
  refine z_callv C rfl ⟨by decide, by decide⟩ zS_0 hM rfl rfl (Nat.le_of_ble_eq_true rfl) ⟨by rw [he.2.1]; exact Nat.le_of_eq (Nat.zero_add _), by rw [he.2.2]; exact Nat.le_of_eq (Nat.zero_add _)⟩ ?_
  exact z_ireturn C rfl he ⟨Nat.le_of_eq (Nat.zero_add _), Nat.le_of_eq (Nat.zero_add _)⟩ rfl

set_option maxHeartbeats 400000 in
set_option maxRecDepth 20000 in
theorem x_7 {κ : zK} (hκ : zKg κ) {a b c d : Int32} {E hp : Nat} {vv : Int32} {h h1 : zH} {mc ms : Nat} (hE : zcn E ∈ [98, 100, 102, 104, 106] ∧ zct E 187 (xHH 128) = some hp ∧ zhv hp = some vv) (hM : zThr κ 98 [zr (some 0), zi a] h E h1 mc ms) : zRet κ 128 [zr (some 0), zi (Int32.ofInt (Int.ofNat 7)), zi a, zi b, zi c, zi d] h (some (zi vv)) h1 mc ms := by
  refine zRet_ofH hκ (by decide) (by decide) (Nat.le_of_ble_eq_true rfl) fun ω C hK he htab => ?_
  subst hK
  refine z_iloadn C rfl rfl ?_
  refine z_tsIn (off := 184) (tgt := 185) C rfl (by decide) (by decide) (by decide) (by decide) ?_
  refine z_aloadn C rfl rfl ?_
  refine z_iloadn C rfl rfl ?_
  exact z_callvC C htab rfl ⟨by decide, by decide⟩ zS_0 hE he hM rfl rfl (Nat.le_of_ble_eq_true rfl) ⟨Nat.le_of_eq (Nat.zero_add _), Nat.le_of_eq (Nat.zero_add _)⟩

set_option maxHeartbeats 400000 in
set_option maxRecDepth 20000 in
theorem w_8 {κ : zK} (hκ : zKg κ) {a b c d : Int32} {v : Int32} {h h1 : zH} {mc ms : Nat} (hM : zRet κ 99 [zr (some 0)] h (some (zi v)) h1 mc ms) : zRet κ 128 [zr (some 0), zi (Int32.ofInt (Int.ofNat 8)), zi a, zi b, zi c, zi d] h (some (zi v)) h1 mc ms := by
  refine zRet_ofH hκ (by decide) (by decide) (Nat.le_of_ble_eq_true rfl) fun ω C hK he htab => ?_
  subst hK
  refine z_iloadn C rfl rfl ?_
  refine z_tsIn (off := 190) (tgt := 191) C rfl (by decide) (by decide) (by decide) (by decide) ?_
  refine z_aloadn C rfl rfl ?_
  refine z_callv C rfl ⟨by decide, by decide⟩ zS_0 hM rfl rfl (Nat.le_of_ble_eq_true rfl) ⟨by rw [he.2.1]; exact Nat.le_of_eq (Nat.zero_add _), by rw [he.2.2]; exact Nat.le_of_eq (Nat.zero_add _)⟩ ?_
  exact z_ireturn C rfl he ⟨Nat.le_of_eq (Nat.zero_add _), Nat.le_of_eq (Nat.zero_add _)⟩ rfl

set_option maxHeartbeats 400000 in
set_option maxRecDepth 20000 in
theorem x_8 {κ : zK} (hκ : zKg κ) {a b c d : Int32} {E hp : Nat} {vv : Int32} {h h1 : zH} {mc ms : Nat} (hE : zcn E ∈ [98, 100, 102, 104, 106] ∧ zct E 192 (xHH 128) = some hp ∧ zhv hp = some vv) (hM : zThr κ 99 [zr (some 0)] h E h1 mc ms) : zRet κ 128 [zr (some 0), zi (Int32.ofInt (Int.ofNat 8)), zi a, zi b, zi c, zi d] h (some (zi vv)) h1 mc ms := by
  refine zRet_ofH hκ (by decide) (by decide) (Nat.le_of_ble_eq_true rfl) fun ω C hK he htab => ?_
  subst hK
  refine z_iloadn C rfl rfl ?_
  refine z_tsIn (off := 190) (tgt := 191) C rfl (by decide) (by decide) (by decide) (by decide) ?_
  refine z_aloadn C rfl rfl ?_
  exact z_callvC C htab rfl ⟨by decide, by decide⟩ zS_0 hE he hM rfl rfl (Nat.le_of_ble_eq_true rfl) ⟨Nat.le_of_eq (Nat.zero_add _), Nat.le_of_eq (Nat.zero_add _)⟩

set_option maxHeartbeats 400000 in
set_option maxRecDepth 20000 in
theorem w_9 {κ : zK} (hκ : zKg κ) {a b c d : Int32} {v : Int32} {h h1 : zH} {mc ms : Nat} (hM : zRet κ 100 [zr (some 0), zi a, zi b, zi c] h (some (zi v)) h1 mc ms) : zRet κ 128 [zr (some 0), zi (Int32.ofInt (Int.ofNat 9)), zi a, zi b, zi c, zi d] h (some (zi v)) h1 mc ms := by
  refine zRet_ofH hκ (by decide) (by decide) (Nat.le_of_ble_eq_true rfl) fun ω C hK he htab => ?_
  subst hK
  refine z_iloadn C rfl rfl ?_
  refine z_tsIn (off := 195) (tgt := 196) C rfl (by decide) (by decide) (by decide) (by decide) ?_
  refine z_aloadn C rfl rfl ?_
  refine z_iloadn C rfl rfl ?_
  refine z_iloadn C rfl rfl ?_
  refine z_iload C rfl rfl ?_
  refine z_callv C rfl ⟨by decide, by decide⟩ zS_0 hM rfl rfl (Nat.le_of_ble_eq_true rfl) ⟨by rw [he.2.1]; exact Nat.le_of_eq (Nat.zero_add _), by rw [he.2.2]; exact Nat.le_of_eq (Nat.zero_add _)⟩ ?_
  exact z_ireturn C rfl he ⟨Nat.le_of_eq (Nat.zero_add _), Nat.le_of_eq (Nat.zero_add _)⟩ rfl

set_option maxHeartbeats 400000 in
set_option maxRecDepth 20000 in
theorem x_9 {κ : zK} (hκ : zKg κ) {a b c d : Int32} {E hp : Nat} {vv : Int32} {h h1 : zH} {mc ms : Nat} (hE : zcn E ∈ [98, 100, 102, 104, 106] ∧ zct E 201 (xHH 128) = some hp ∧ zhv hp = some vv) (hM : zThr κ 100 [zr (some 0), zi a, zi b, zi c] h E h1 mc ms) : zRet κ 128 [zr (some 0), zi (Int32.ofInt (Int.ofNat 9)), zi a, zi b, zi c, zi d] h (some (zi vv)) h1 mc ms := by
  refine zRet_ofH hκ (by decide) (by decide) (Nat.le_of_ble_eq_true rfl) fun ω C hK he htab => ?_
  subst hK
  refine z_iloadn C rfl rfl ?_
  refine z_tsIn (off := 195) (tgt := 196) C rfl (by decide) (by decide) (by decide) (by decide) ?_
  refine z_aloadn C rfl rfl ?_
  refine z_iloadn C rfl rfl ?_
  refine z_iloadn C rfl rfl ?_
  refine z_iload C rfl rfl ?_
  exact z_callvC C htab rfl ⟨by decide, by decide⟩ zS_0 hE he hM rfl rfl (Nat.le_of_ble_eq_true rfl) ⟨Nat.le_of_eq (Nat.zero_add _), Nat.le_of_eq (Nat.zero_add _)⟩

set_option maxHeartbeats 400000 in
set_option maxRecDepth 20000 in
theorem w_10 {κ : zK} (hκ : zKg κ) {a b c d : Int32} {v : Int32} {h h1 : zH} {mc ms : Nat} (hM : zRet κ 101 [zr (some 0), zi a, zi b] h (some (zi v)) h1 mc ms) : zRet κ 128 [zr (some 0), zi (Int32.ofInt (Int.ofNat 10)), zi a, zi b, zi c, zi d] h (some (zi v)) h1 mc ms := by
  refine zRet_ofH hκ (by decide) (by decide) (Nat.le_of_ble_eq_true rfl) fun ω C hK he htab => ?_
  subst hK
  refine z_iloadn C rfl rfl ?_
  refine z_tsIn (off := 204) (tgt := 205) C rfl (by decide) (by decide) (by decide) (by decide) ?_
  refine z_aloadn C rfl rfl ?_
  refine z_iloadn C rfl rfl ?_
  refine z_iloadn C rfl rfl ?_
  refine z_callv C rfl ⟨by decide, by decide⟩ zS_0 hM rfl rfl (Nat.le_of_ble_eq_true rfl) ⟨by rw [he.2.1]; exact Nat.le_of_eq (Nat.zero_add _), by rw [he.2.2]; exact Nat.le_of_eq (Nat.zero_add _)⟩ ?_
  exact z_ireturn C rfl he ⟨Nat.le_of_eq (Nat.zero_add _), Nat.le_of_eq (Nat.zero_add _)⟩ rfl

set_option maxHeartbeats 400000 in
set_option maxRecDepth 20000 in
theorem x_10 {κ : zK} (hκ : zKg κ) {a b c d : Int32} {E hp : Nat} {vv : Int32} {h h1 : zH} {mc ms : Nat} (hE : zcn E ∈ [98, 100, 102, 104, 106] ∧ zct E 208 (xHH 128) = some hp ∧ zhv hp = some vv) (hM : zThr κ 101 [zr (some 0), zi a, zi b] h E h1 mc ms) : zRet κ 128 [zr (some 0), zi (Int32.ofInt (Int.ofNat 10)), zi a, zi b, zi c, zi d] h (some (zi vv)) h1 mc ms := by
  refine zRet_ofH hκ (by decide) (by decide) (Nat.le_of_ble_eq_true rfl) fun ω C hK he htab => ?_
  subst hK
  refine z_iloadn C rfl rfl ?_
  refine z_tsIn (off := 204) (tgt := 205) C rfl (by decide) (by decide) (by decide) (by decide) ?_
  refine z_aloadn C rfl rfl ?_
  refine z_iloadn C rfl rfl ?_
  refine z_iloadn C rfl rfl ?_
  exact z_callvC C htab rfl ⟨by decide, by decide⟩ zS_0 hE he hM rfl rfl (Nat.le_of_ble_eq_true rfl) ⟨Nat.le_of_eq (Nat.zero_add _), Nat.le_of_eq (Nat.zero_add _)⟩

set_option maxHeartbeats 400000 in
set_option maxRecDepth 20000 in
theorem w_11 {κ : zK} (hκ : zKg κ) {a b c d : Int32} {v : Int32} {h h1 : zH} {mc ms : Nat} (hM : zRet κ 102 [zr (some 0), zi a, zi b, zi c, zi d] h (some (zi v)) h1 mc ms) : zRet κ 128 [zr (some 0), zi (Int32.ofInt (Int.ofNat 11)), zi a, zi b, zi c, zi d] h (some (zi v)) h1 mc ms := by
  refine zRet_ofH hκ (by decide) (by decide) (Nat.le_of_ble_eq_true rfl) fun ω C hK he htab => ?_
  subst hK
  refine z_iloadn C rfl rfl ?_
  refine z_tsIn (off := 211) (tgt := 212) C rfl (by decide) (by decide) (by decide) (by decide) ?_
  refine z_aloadn C rfl rfl ?_
  refine z_iloadn C rfl rfl ?_
  refine z_iloadn C rfl rfl ?_
  refine z_iload C rfl rfl ?_
  refine z_iload C rfl rfl ?_
  refine z_callv C rfl ⟨by decide, by decide⟩ zS_0 hM rfl rfl (Nat.le_of_ble_eq_true rfl) ⟨by rw [he.2.1]; exact Nat.le_of_eq (Nat.zero_add _), by rw [he.2.2]; exact Nat.le_of_eq (Nat.zero_add _)⟩ ?_
  exact z_ireturn C rfl he ⟨Nat.le_of_eq (Nat.zero_add _), Nat.le_of_eq (Nat.zero_add _)⟩ rfl

set_option maxHeartbeats 400000 in
set_option maxRecDepth 20000 in
theorem x_11 {κ : zK} (hκ : zKg κ) {a b c d : Int32} {E hp : Nat} {vv : Int32} {h h1 : zH} {mc ms : Nat} (hE : zcn E ∈ [98, 100, 102, 104, 106] ∧ zct E 219 (xHH 128) = some hp ∧ zhv hp = some vv) (hM : zThr κ 102 [zr (some 0), zi a, zi b, zi c, zi d] h E h1 mc ms) : zRet κ 128 [zr (some 0), zi (Int32.ofInt (Int.ofNat 11)), zi a, zi b, zi c, zi d] h (some (zi vv)) h1 mc ms := by
  refine zRet_ofH hκ (by decide) (by decide) (Nat.le_of_ble_eq_true rfl) fun ω C hK he htab => ?_
  subst hK
  refine z_iloadn C rfl rfl ?_
  refine z_tsIn (off := 211) (tgt := 212) C rfl (by decide) (by decide) (by decide) (by decide) ?_
  refine z_aloadn C rfl rfl ?_
  refine z_iloadn C rfl rfl ?_
  refine z_iloadn C rfl rfl ?_
  refine z_iload C rfl rfl ?_
  refine z_iload C rfl rfl ?_
  exact z_callvC C htab rfl ⟨by decide, by decide⟩ zS_0 hE he hM rfl rfl (Nat.le_of_ble_eq_true rfl) ⟨Nat.le_of_eq (Nat.zero_add _), Nat.le_of_eq (Nat.zero_add _)⟩

set_option maxHeartbeats 400000 in
set_option maxRecDepth 20000 in
theorem w_12 {κ : zK} (hκ : zKg κ) {a b c d : Int32} {v : Int32} {h h1 : zH} {mc ms : Nat} (hM : zRet κ 103 [zr (some 0), zi a, zi b, zi c, zi d] h (some (zi v)) h1 mc ms) : zRet κ 128 [zr (some 0), zi (Int32.ofInt (Int.ofNat 12)), zi a, zi b, zi c, zi d] h (some (zi v)) h1 mc ms := by
  refine zRet_ofH hκ (by decide) (by decide) (Nat.le_of_ble_eq_true rfl) fun ω C hK he htab => ?_
  subst hK
  refine z_iloadn C rfl rfl ?_
  refine z_tsIn (off := 222) (tgt := 223) C rfl (by decide) (by decide) (by decide) (by decide) ?_
  refine z_aloadn C rfl rfl ?_
  refine z_iloadn C rfl rfl ?_
  refine z_iloadn C rfl rfl ?_
  refine z_iload C rfl rfl ?_
  refine z_iload C rfl rfl ?_
  refine z_callv C rfl ⟨by decide, by decide⟩ zS_0 hM rfl rfl (Nat.le_of_ble_eq_true rfl) ⟨by rw [he.2.1]; exact Nat.le_of_eq (Nat.zero_add _), by rw [he.2.2]; exact Nat.le_of_eq (Nat.zero_add _)⟩ ?_
  exact z_ireturn C rfl he ⟨Nat.le_of_eq (Nat.zero_add _), Nat.le_of_eq (Nat.zero_add _)⟩ rfl

set_option maxHeartbeats 400000 in
set_option maxRecDepth 20000 in
theorem x_12 {κ : zK} (hκ : zKg κ) {a b c d : Int32} {E hp : Nat} {vv : Int32} {h h1 : zH} {mc ms : Nat} (hE : zcn E ∈ [98, 100, 102, 104, 106] ∧ zct E 230 (xHH 128) = some hp ∧ zhv hp = some vv) (hM : zThr κ 103 [zr (some 0), zi a, zi b, zi c, zi d] h E h1 mc ms) : zRet κ 128 [zr (some 0), zi (Int32.ofInt (Int.ofNat 12)), zi a, zi b, zi c, zi d] h (some (zi vv)) h1 mc ms := by
  refine zRet_ofH hκ (by decide) (by decide) (Nat.le_of_ble_eq_true rfl) fun ω C hK he htab => ?_
  subst hK
  refine z_iloadn C rfl rfl ?_
  refine z_tsIn (off := 222) (tgt := 223) C rfl (by decide) (by decide) (by decide) (by decide) ?_
  refine z_aloadn C rfl rfl ?_
  refine z_iloadn C rfl rfl ?_
  refine z_iloadn C rfl rfl ?_
  refine z_iload C rfl rfl ?_
  refine z_iload C rfl rfl ?_
  exact z_callvC C htab rfl ⟨by decide, by decide⟩ zS_0 hE he hM rfl rfl (Nat.le_of_ble_eq_true rfl) ⟨Nat.le_of_eq (Nat.zero_add _), Nat.le_of_eq (Nat.zero_add _)⟩

set_option maxHeartbeats 400000 in
set_option maxRecDepth 20000 in
theorem w_13 {κ : zK} (hκ : zKg κ) {a b c d : Int32} {v : Int32} {h h1 : zH} {mc ms : Nat} (hM : zRet κ 104 [zr (some 0), zi a, zi b, zi c, zi d] h (some (zi v)) h1 mc ms) : zRet κ 128 [zr (some 0), zi (Int32.ofInt (Int.ofNat 13)), zi a, zi b, zi c, zi d] h (some (zi v)) h1 mc ms := by
  refine zRet_ofH hκ (by decide) (by decide) (Nat.le_of_ble_eq_true rfl) fun ω C hK he htab => ?_
  subst hK
  refine z_iloadn C rfl rfl ?_
  refine z_tsIn (off := 233) (tgt := 234) C rfl (by decide) (by decide) (by decide) (by decide) ?_
  refine z_aloadn C rfl rfl ?_
  refine z_iloadn C rfl rfl ?_
  refine z_iloadn C rfl rfl ?_
  refine z_iload C rfl rfl ?_
  refine z_iload C rfl rfl ?_
  refine z_callv C rfl ⟨by decide, by decide⟩ zS_0 hM rfl rfl (Nat.le_of_ble_eq_true rfl) ⟨by rw [he.2.1]; exact Nat.le_of_eq (Nat.zero_add _), by rw [he.2.2]; exact Nat.le_of_eq (Nat.zero_add _)⟩ ?_
  exact z_ireturn C rfl he ⟨Nat.le_of_eq (Nat.zero_add _), Nat.le_of_eq (Nat.zero_add _)⟩ rfl

set_option maxHeartbeats 400000 in
set_option maxRecDepth 20000 in
theorem x_13 {κ : zK} (hκ : zKg κ) {a b c d : Int32} {E hp : Nat} {vv : Int32} {h h1 : zH} {mc ms : Nat} (hE : zcn E ∈ [98, 100, 102, 104, 106] ∧ zct E 241 (xHH 128) = some hp ∧ zhv hp = some vv) (hM : zThr κ 104 [zr (some 0), zi a, zi b, zi c, zi d] h E h1 mc ms) : zRet κ 128 [zr (some 0), zi (Int32.ofInt (Int.ofNat 13)), zi a, zi b, zi c, zi d] h (some (zi vv)) h1 mc ms := by
  refine zRet_ofH hκ (by decide) (by decide) (Nat.le_of_ble_eq_true rfl) fun ω C hK he htab => ?_
  subst hK
  refine z_iloadn C rfl rfl ?_
  refine z_tsIn (off := 233) (tgt := 234) C rfl (by decide) (by decide) (by decide) (by decide) ?_
  refine z_aloadn C rfl rfl ?_
  refine z_iloadn C rfl rfl ?_
  refine z_iloadn C rfl rfl ?_
  refine z_iload C rfl rfl ?_
  refine z_iload C rfl rfl ?_
  exact z_callvC C htab rfl ⟨by decide, by decide⟩ zS_0 hE he hM rfl rfl (Nat.le_of_ble_eq_true rfl) ⟨Nat.le_of_eq (Nat.zero_add _), Nat.le_of_eq (Nat.zero_add _)⟩

set_option maxHeartbeats 400000 in
set_option maxRecDepth 20000 in
theorem w_14 {κ : zK} (hκ : zKg κ) {a b c d : Int32} {v : Int32} {h h1 : zH} {mc ms : Nat} (hM : zRet κ 105 [zr (some 0), zi a, zi b] h (some (zi v)) h1 mc ms) : zRet κ 128 [zr (some 0), zi (Int32.ofInt (Int.ofNat 14)), zi a, zi b, zi c, zi d] h (some (zi v)) h1 mc ms := by
  refine zRet_ofH hκ (by decide) (by decide) (Nat.le_of_ble_eq_true rfl) fun ω C hK he htab => ?_
  subst hK
  refine z_iloadn C rfl rfl ?_
  refine z_tsIn (off := 244) (tgt := 245) C rfl (by decide) (by decide) (by decide) (by decide) ?_
  refine z_aloadn C rfl rfl ?_
  refine z_iloadn C rfl rfl ?_
  refine z_iloadn C rfl rfl ?_
  refine z_callv C rfl ⟨by decide, by decide⟩ zS_0 hM rfl rfl (Nat.le_of_ble_eq_true rfl) ⟨by rw [he.2.1]; exact Nat.le_of_eq (Nat.zero_add _), by rw [he.2.2]; exact Nat.le_of_eq (Nat.zero_add _)⟩ ?_
  exact z_ireturn C rfl he ⟨Nat.le_of_eq (Nat.zero_add _), Nat.le_of_eq (Nat.zero_add _)⟩ rfl

set_option maxHeartbeats 400000 in
set_option maxRecDepth 20000 in
theorem x_14 {κ : zK} (hκ : zKg κ) {a b c d : Int32} {E hp : Nat} {vv : Int32} {h h1 : zH} {mc ms : Nat} (hE : zcn E ∈ [98, 100, 102, 104, 106] ∧ zct E 248 (xHH 128) = some hp ∧ zhv hp = some vv) (hM : zThr κ 105 [zr (some 0), zi a, zi b] h E h1 mc ms) : zRet κ 128 [zr (some 0), zi (Int32.ofInt (Int.ofNat 14)), zi a, zi b, zi c, zi d] h (some (zi vv)) h1 mc ms := by
  refine zRet_ofH hκ (by decide) (by decide) (Nat.le_of_ble_eq_true rfl) fun ω C hK he htab => ?_
  subst hK
  refine z_iloadn C rfl rfl ?_
  refine z_tsIn (off := 244) (tgt := 245) C rfl (by decide) (by decide) (by decide) (by decide) ?_
  refine z_aloadn C rfl rfl ?_
  refine z_iloadn C rfl rfl ?_
  refine z_iloadn C rfl rfl ?_
  exact z_callvC C htab rfl ⟨by decide, by decide⟩ zS_0 hE he hM rfl rfl (Nat.le_of_ble_eq_true rfl) ⟨Nat.le_of_eq (Nat.zero_add _), Nat.le_of_eq (Nat.zero_add _)⟩

set_option maxHeartbeats 400000 in
set_option maxRecDepth 20000 in
theorem w_16 {κ : zK} (hκ : zKg κ) {a b c d : Int32} {v : Int32} {h h1 : zH} {mc ms : Nat} (hM : zRet κ 109 [zr (some 0), zi a] h (some (zi v)) h1 mc ms) : zRet κ 128 [zr (some 0), zi (Int32.ofInt (Int.ofNat 16)), zi a, zi b, zi c, zi d] h (some (zi v)) h1 mc ms := by
  refine zRet_ofH hκ (by decide) (by decide) (Nat.le_of_ble_eq_true rfl) fun ω C hK he htab => ?_
  subst hK
  refine z_iloadn C rfl rfl ?_
  refine z_tsIn (off := 268) (tgt := 269) C rfl (by decide) (by decide) (by decide) (by decide) ?_
  refine z_aloadn C rfl rfl ?_
  refine z_iloadn C rfl rfl ?_
  refine z_callv C rfl ⟨by decide, by decide⟩ zS_0 hM rfl rfl (Nat.le_of_ble_eq_true rfl) ⟨by rw [he.2.1]; exact Nat.le_of_eq (Nat.zero_add _), by rw [he.2.2]; exact Nat.le_of_eq (Nat.zero_add _)⟩ ?_
  exact z_ireturn C rfl he ⟨Nat.le_of_eq (Nat.zero_add _), Nat.le_of_eq (Nat.zero_add _)⟩ rfl

set_option maxHeartbeats 400000 in
set_option maxRecDepth 20000 in
theorem x_16 {κ : zK} (hκ : zKg κ) {a b c d : Int32} {E hp : Nat} {vv : Int32} {h h1 : zH} {mc ms : Nat} (hE : zcn E ∈ [98, 100, 102, 104, 106] ∧ zct E 271 (xHH 128) = some hp ∧ zhv hp = some vv) (hM : zThr κ 109 [zr (some 0), zi a] h E h1 mc ms) : zRet κ 128 [zr (some 0), zi (Int32.ofInt (Int.ofNat 16)), zi a, zi b, zi c, zi d] h (some (zi vv)) h1 mc ms := by
  refine zRet_ofH hκ (by decide) (by decide) (Nat.le_of_ble_eq_true rfl) fun ω C hK he htab => ?_
  subst hK
  refine z_iloadn C rfl rfl ?_
  refine z_tsIn (off := 268) (tgt := 269) C rfl (by decide) (by decide) (by decide) (by decide) ?_
  refine z_aloadn C rfl rfl ?_
  refine z_iloadn C rfl rfl ?_
  exact z_callvC C htab rfl ⟨by decide, by decide⟩ zS_0 hE he hM rfl rfl (Nat.le_of_ble_eq_true rfl) ⟨Nat.le_of_eq (Nat.zero_add _), Nat.le_of_eq (Nat.zero_add _)⟩

set_option maxHeartbeats 400000 in
set_option maxRecDepth 20000 in
theorem w_17 {κ : zK} (hκ : zKg κ) {a b c d : Int32} {v : Int32} {h h1 : zH} {mc ms : Nat} (hM : zRet κ 110 [zr (some 0), zi a] h (some (zi v)) h1 mc ms) : zRet κ 128 [zr (some 0), zi (Int32.ofInt (Int.ofNat 17)), zi a, zi b, zi c, zi d] h (some (zi (if v = 0 then 0 else 1))) h1 mc ms := by
  refine zRet_ofH hκ (by decide) (by decide) (Nat.le_of_ble_eq_true rfl) fun ω C hK he htab => ?_
  subst hK
  refine z_iloadn C rfl rfl ?_
  refine z_tsIn (off := 274) (tgt := 275) C rfl (by decide) (by decide) (by decide) (by decide) ?_
  refine z_aloadn C rfl rfl ?_
  refine z_iloadn C rfl rfl ?_
  refine z_callv C rfl ⟨by decide, by decide⟩ zS_0 hM rfl rfl (Nat.le_of_ble_eq_true rfl) ⟨by rw [he.2.1]; exact Nat.le_of_eq (Nat.zero_add _), by rw [he.2.2]; exact Nat.le_of_eq (Nat.zero_add _)⟩ ?_
  refine z_if C rfl (fun hc1 => ?_) (fun hc1 => ?_)
  · skip
    skip
    refine z_iconst C rfl ?_
    exact z_ireturn C rfl (zER_eq he (by first | (rw [if_pos (show v = 0 from hc1)]; rfl) | (rw [if_neg (show ¬ v = 0 from hc1)]; rfl) | (rw [if_pos (show v = 0 from hc2)]; rfl) | (rw [if_neg (show ¬ v = 0 from hc2)]; rfl)) rfl) ⟨Nat.le_of_eq (Nat.zero_add _), Nat.le_of_eq (Nat.zero_add _)⟩ rfl
  · skip
    skip
    refine z_iconst C rfl ?_
    refine z_goto C rfl ?_
    exact z_ireturn C rfl (zER_eq he (by first | (rw [if_pos (show v = 0 from hc1)]; rfl) | (rw [if_neg (show ¬ v = 0 from hc1)]; rfl) | (rw [if_pos (show v = 0 from hc2)]; rfl) | (rw [if_neg (show ¬ v = 0 from hc2)]; rfl)) rfl) ⟨Nat.le_of_eq (Nat.zero_add _), Nat.le_of_eq (Nat.zero_add _)⟩ rfl

set_option maxHeartbeats 400000 in
set_option maxRecDepth 20000 in
theorem x_17 {κ : zK} (hκ : zKg κ) {a b c d : Int32} {E hp : Nat} {vv : Int32} {h h1 : zH} {mc ms : Nat} (hE : zcn E ∈ [98, 100, 102, 104, 106] ∧ zct E 277 (xHH 128) = some hp ∧ zhv hp = some vv) (hM : zThr κ 110 [zr (some 0), zi a] h E h1 mc ms) : zRet κ 128 [zr (some 0), zi (Int32.ofInt (Int.ofNat 17)), zi a, zi b, zi c, zi d] h (some (zi vv)) h1 mc ms := by
  refine zRet_ofH hκ (by decide) (by decide) (Nat.le_of_ble_eq_true rfl) fun ω C hK he htab => ?_
  subst hK
  refine z_iloadn C rfl rfl ?_
  refine z_tsIn (off := 274) (tgt := 275) C rfl (by decide) (by decide) (by decide) (by decide) ?_
  refine z_aloadn C rfl rfl ?_
  refine z_iloadn C rfl rfl ?_
  exact z_callvC C htab rfl ⟨by decide, by decide⟩ zS_0 hE he hM rfl rfl (Nat.le_of_ble_eq_true rfl) ⟨Nat.le_of_eq (Nat.zero_add _), Nat.le_of_eq (Nat.zero_add _)⟩

set_option maxHeartbeats 400000 in
set_option maxRecDepth 20000 in
theorem w_18 {κ : zK} (hκ : zKg κ) {a b c d : Int32} {v : Int32} {h h1 : zH} {mc ms : Nat} (hM : zRet κ 111 [zr (some 0), zi a] h (some (zi v)) h1 mc ms) : zRet κ 128 [zr (some 0), zi (Int32.ofInt (Int.ofNat 18)), zi a, zi b, zi c, zi d] h (some (zi v)) h1 mc ms := by
  refine zRet_ofH hκ (by decide) (by decide) (Nat.le_of_ble_eq_true rfl) fun ω C hK he htab => ?_
  subst hK
  refine z_iloadn C rfl rfl ?_
  refine z_tsIn (off := 288) (tgt := 289) C rfl (by decide) (by decide) (by decide) (by decide) ?_
  refine z_aloadn C rfl rfl ?_
  refine z_iloadn C rfl rfl ?_
  refine z_callv C rfl ⟨by decide, by decide⟩ zS_0 hM rfl rfl (Nat.le_of_ble_eq_true rfl) ⟨by rw [he.2.1]; exact Nat.le_of_eq (Nat.zero_add _), by rw [he.2.2]; exact Nat.le_of_eq (Nat.zero_add _)⟩ ?_
  exact z_ireturn C rfl he ⟨Nat.le_of_eq (Nat.zero_add _), Nat.le_of_eq (Nat.zero_add _)⟩ rfl

set_option maxHeartbeats 400000 in
set_option maxRecDepth 20000 in
theorem x_18 {κ : zK} (hκ : zKg κ) {a b c d : Int32} {E hp : Nat} {vv : Int32} {h h1 : zH} {mc ms : Nat} (hE : zcn E ∈ [98, 100, 102, 104, 106] ∧ zct E 291 (xHH 128) = some hp ∧ zhv hp = some vv) (hM : zThr κ 111 [zr (some 0), zi a] h E h1 mc ms) : zRet κ 128 [zr (some 0), zi (Int32.ofInt (Int.ofNat 18)), zi a, zi b, zi c, zi d] h (some (zi vv)) h1 mc ms := by
  refine zRet_ofH hκ (by decide) (by decide) (Nat.le_of_ble_eq_true rfl) fun ω C hK he htab => ?_
  subst hK
  refine z_iloadn C rfl rfl ?_
  refine z_tsIn (off := 288) (tgt := 289) C rfl (by decide) (by decide) (by decide) (by decide) ?_
  refine z_aloadn C rfl rfl ?_
  refine z_iloadn C rfl rfl ?_
  exact z_callvC C htab rfl ⟨by decide, by decide⟩ zS_0 hE he hM rfl rfl (Nat.le_of_ble_eq_true rfl) ⟨Nat.le_of_eq (Nat.zero_add _), Nat.le_of_eq (Nat.zero_add _)⟩

set_option maxHeartbeats 400000 in
set_option maxRecDepth 20000 in
theorem w_19 {κ : zK} (hκ : zKg κ) {a b c d : Int32} {v : Int32} {h h1 : zH} {mc ms : Nat} (hM : zRet κ 112 [zr (some 0), zi a] h (some (zi v)) h1 mc ms) : zRet κ 128 [zr (some 0), zi (Int32.ofInt (Int.ofNat 19)), zi a, zi b, zi c, zi d] h (some (zi (if v = 0 then 0 else 1))) h1 mc ms := by
  refine zRet_ofH hκ (by decide) (by decide) (Nat.le_of_ble_eq_true rfl) fun ω C hK he htab => ?_
  subst hK
  refine z_iloadn C rfl rfl ?_
  refine z_tsIn (off := 294) (tgt := 295) C rfl (by decide) (by decide) (by decide) (by decide) ?_
  refine z_aloadn C rfl rfl ?_
  refine z_iloadn C rfl rfl ?_
  refine z_callv C rfl ⟨by decide, by decide⟩ zS_0 hM rfl rfl (Nat.le_of_ble_eq_true rfl) ⟨by rw [he.2.1]; exact Nat.le_of_eq (Nat.zero_add _), by rw [he.2.2]; exact Nat.le_of_eq (Nat.zero_add _)⟩ ?_
  refine z_if C rfl (fun hc1 => ?_) (fun hc1 => ?_)
  · skip
    skip
    refine z_iconst C rfl ?_
    exact z_ireturn C rfl (zER_eq he (by first | (rw [if_pos (show v = 0 from hc1)]; rfl) | (rw [if_neg (show ¬ v = 0 from hc1)]; rfl) | (rw [if_pos (show v = 0 from hc2)]; rfl) | (rw [if_neg (show ¬ v = 0 from hc2)]; rfl)) rfl) ⟨Nat.le_of_eq (Nat.zero_add _), Nat.le_of_eq (Nat.zero_add _)⟩ rfl
  · skip
    skip
    refine z_iconst C rfl ?_
    refine z_goto C rfl ?_
    exact z_ireturn C rfl (zER_eq he (by first | (rw [if_pos (show v = 0 from hc1)]; rfl) | (rw [if_neg (show ¬ v = 0 from hc1)]; rfl) | (rw [if_pos (show v = 0 from hc2)]; rfl) | (rw [if_neg (show ¬ v = 0 from hc2)]; rfl)) rfl) ⟨Nat.le_of_eq (Nat.zero_add _), Nat.le_of_eq (Nat.zero_add _)⟩ rfl

set_option maxHeartbeats 400000 in
set_option maxRecDepth 20000 in
theorem x_19 {κ : zK} (hκ : zKg κ) {a b c d : Int32} {E hp : Nat} {vv : Int32} {h h1 : zH} {mc ms : Nat} (hE : zcn E ∈ [98, 100, 102, 104, 106] ∧ zct E 297 (xHH 128) = some hp ∧ zhv hp = some vv) (hM : zThr κ 112 [zr (some 0), zi a] h E h1 mc ms) : zRet κ 128 [zr (some 0), zi (Int32.ofInt (Int.ofNat 19)), zi a, zi b, zi c, zi d] h (some (zi vv)) h1 mc ms := by
  refine zRet_ofH hκ (by decide) (by decide) (Nat.le_of_ble_eq_true rfl) fun ω C hK he htab => ?_
  subst hK
  refine z_iloadn C rfl rfl ?_
  refine z_tsIn (off := 294) (tgt := 295) C rfl (by decide) (by decide) (by decide) (by decide) ?_
  refine z_aloadn C rfl rfl ?_
  refine z_iloadn C rfl rfl ?_
  exact z_callvC C htab rfl ⟨by decide, by decide⟩ zS_0 hE he hM rfl rfl (Nat.le_of_ble_eq_true rfl) ⟨Nat.le_of_eq (Nat.zero_add _), Nat.le_of_eq (Nat.zero_add _)⟩

set_option maxHeartbeats 400000 in
set_option maxRecDepth 20000 in
theorem w_20 {κ : zK} (hκ : zKg κ) {a b c d : Int32} {v : Int32} {h h1 : zH} {mc ms : Nat} (hM : zRet κ 113 [zr (some 0)] h (some (zi v)) h1 mc ms) : zRet κ 128 [zr (some 0), zi (Int32.ofInt (Int.ofNat 20)), zi a, zi b, zi c, zi d] h (some (zi v)) h1 mc ms := by
  refine zRet_ofH hκ (by decide) (by decide) (Nat.le_of_ble_eq_true rfl) fun ω C hK he htab => ?_
  subst hK
  refine z_iloadn C rfl rfl ?_
  refine z_tsIn (off := 308) (tgt := 309) C rfl (by decide) (by decide) (by decide) (by decide) ?_
  refine z_aloadn C rfl rfl ?_
  refine z_callv C rfl ⟨by decide, by decide⟩ zS_0 hM rfl rfl (Nat.le_of_ble_eq_true rfl) ⟨by rw [he.2.1]; exact Nat.le_of_eq (Nat.zero_add _), by rw [he.2.2]; exact Nat.le_of_eq (Nat.zero_add _)⟩ ?_
  exact z_ireturn C rfl he ⟨Nat.le_of_eq (Nat.zero_add _), Nat.le_of_eq (Nat.zero_add _)⟩ rfl

set_option maxHeartbeats 400000 in
set_option maxRecDepth 20000 in
theorem x_20 {κ : zK} (hκ : zKg κ) {a b c d : Int32} {E hp : Nat} {vv : Int32} {h h1 : zH} {mc ms : Nat} (hE : zcn E ∈ [98, 100, 102, 104, 106] ∧ zct E 310 (xHH 128) = some hp ∧ zhv hp = some vv) (hM : zThr κ 113 [zr (some 0)] h E h1 mc ms) : zRet κ 128 [zr (some 0), zi (Int32.ofInt (Int.ofNat 20)), zi a, zi b, zi c, zi d] h (some (zi vv)) h1 mc ms := by
  refine zRet_ofH hκ (by decide) (by decide) (Nat.le_of_ble_eq_true rfl) fun ω C hK he htab => ?_
  subst hK
  refine z_iloadn C rfl rfl ?_
  refine z_tsIn (off := 308) (tgt := 309) C rfl (by decide) (by decide) (by decide) (by decide) ?_
  refine z_aloadn C rfl rfl ?_
  exact z_callvC C htab rfl ⟨by decide, by decide⟩ zS_0 hE he hM rfl rfl (Nat.le_of_ble_eq_true rfl) ⟨Nat.le_of_eq (Nat.zero_add _), Nat.le_of_eq (Nat.zero_add _)⟩

set_option maxHeartbeats 400000 in
set_option maxRecDepth 20000 in
theorem w_21 {κ : zK} (hκ : zKg κ) {a b c d : Int32} {v : Int32} {h h1 : zH} {mc ms : Nat} (hM : zRet κ 114 [zr (some 0)] h (some (zi v)) h1 mc ms) : zRet κ 128 [zr (some 0), zi (Int32.ofInt (Int.ofNat 21)), zi a, zi b, zi c, zi d] h (some (zi v)) h1 mc ms := by
  refine zRet_ofH hκ (by decide) (by decide) (Nat.le_of_ble_eq_true rfl) fun ω C hK he htab => ?_
  subst hK
  refine z_iloadn C rfl rfl ?_
  refine z_tsIn (off := 313) (tgt := 314) C rfl (by decide) (by decide) (by decide) (by decide) ?_
  refine z_aloadn C rfl rfl ?_
  refine z_callv C rfl ⟨by decide, by decide⟩ zS_0 hM rfl rfl (Nat.le_of_ble_eq_true rfl) ⟨by rw [he.2.1]; exact Nat.le_of_eq (Nat.zero_add _), by rw [he.2.2]; exact Nat.le_of_eq (Nat.zero_add _)⟩ ?_
  exact z_ireturn C rfl he ⟨Nat.le_of_eq (Nat.zero_add _), Nat.le_of_eq (Nat.zero_add _)⟩ rfl

set_option maxHeartbeats 400000 in
set_option maxRecDepth 20000 in
theorem x_21 {κ : zK} (hκ : zKg κ) {a b c d : Int32} {E hp : Nat} {vv : Int32} {h h1 : zH} {mc ms : Nat} (hE : zcn E ∈ [98, 100, 102, 104, 106] ∧ zct E 315 (xHH 128) = some hp ∧ zhv hp = some vv) (hM : zThr κ 114 [zr (some 0)] h E h1 mc ms) : zRet κ 128 [zr (some 0), zi (Int32.ofInt (Int.ofNat 21)), zi a, zi b, zi c, zi d] h (some (zi vv)) h1 mc ms := by
  refine zRet_ofH hκ (by decide) (by decide) (Nat.le_of_ble_eq_true rfl) fun ω C hK he htab => ?_
  subst hK
  refine z_iloadn C rfl rfl ?_
  refine z_tsIn (off := 313) (tgt := 314) C rfl (by decide) (by decide) (by decide) (by decide) ?_
  refine z_aloadn C rfl rfl ?_
  exact z_callvC C htab rfl ⟨by decide, by decide⟩ zS_0 hE he hM rfl rfl (Nat.le_of_ble_eq_true rfl) ⟨Nat.le_of_eq (Nat.zero_add _), Nat.le_of_eq (Nat.zero_add _)⟩

set_option maxHeartbeats 400000 in
set_option maxRecDepth 20000 in
theorem x_22 {κ : zK} (hκ : zKg κ) {a b c d : Int32} {E hp : Nat} {vv : Int32} {h h1 : zH} {mc ms : Nat} (hE : zcn E ∈ [98, 100, 102, 104, 106] ∧ zct E 322 (xHH 128) = some hp ∧ zhv hp = some vv) (hM : zThr κ 106 [zr (some 0), zi a, zi b] h E h1 mc ms) : zRet κ 128 [zr (some 0), zi (Int32.ofInt (Int.ofNat 22)), zi a, zi b, zi c, zi d] h (some (zi vv)) h1 mc ms := by
  refine zRet_ofH hκ (by decide) (by decide) (Nat.le_of_ble_eq_true rfl) fun ω C hK he htab => ?_
  subst hK
  refine z_iloadn C rfl rfl ?_
  refine z_tsIn (off := 318) (tgt := 319) C rfl (by decide) (by decide) (by decide) (by decide) ?_
  refine z_aloadn C rfl rfl ?_
  refine z_iloadn C rfl rfl ?_
  refine z_iloadn C rfl rfl ?_
  exact z_callvC C htab rfl ⟨by decide, by decide⟩ zS_0 hE he hM rfl rfl (Nat.le_of_ble_eq_true rfl) ⟨Nat.le_of_eq (Nat.zero_add _), Nat.le_of_eq (Nat.zero_add _)⟩

set_option maxHeartbeats 400000 in
set_option maxRecDepth 20000 in
theorem w_3 {κ : zK} (hκ : zKg κ) {a b c d : Int32} {Q : Option zV → zH → Prop} {h : zH} (hQ : ∀ v h1, Q v h1 → ∃ x, v = some (zi x)) (hM : zRq κ 93 [zr (some 0), zi a, zi b, zi c] h Q 0 0) : zRq κ 128 [zr (some 0), zi (Int32.ofInt (Int.ofNat 3)), zi a, zi b, zi c, zi d] h Q 0 0 := by
  refine zRq_ofH hκ (by decide) (by decide) (Nat.le_of_ble_eq_true rfl) fun ω C hK he => ?_
  subst hK
  refine z_iloadn C rfl rfl ?_
  refine z_tsIn (off := 159) (tgt := 160) C rfl (by decide) (by decide) (by decide) (by decide) ?_
  refine z_aloadn C rfl rfl ?_
  refine z_iloadn C rfl rfl ?_
  refine z_iloadn C rfl rfl ?_
  refine z_iload C rfl rfl ?_
  refine z_callvq C rfl ⟨by decide, by decide⟩ zS_0 hM rfl rfl (Nat.le_of_ble_eq_true rfl) ⟨Nat.zero_le _, Nat.zero_le _⟩ fun v g1 q1 => ?_
  obtain ⟨x, rfl⟩ := hQ v g1 q1
  exact z_ireturnq C rfl he ⟨Nat.le_refl _, Nat.le_refl _⟩ rfl q1

set_option maxHeartbeats 400000 in
set_option maxRecDepth 20000 in
theorem w_22 {κ : zK} (hκ : zKg κ) {a b c d : Int32} {v0 : Int32} {h : zH} (hM : zRD κ 106 [zr (some 0), zi a, zi b] h (fun v h' => h' = h ∧ ∃ x, v = some (zd x) ∧ FP.d2i x = v0) 0 0) : zRD κ 128 [zr (some 0), zi (Int32.ofInt (Int.ofNat 22)), zi a, zi b, zi c, zi d] h (fun v h' => h' = h ∧ v = some (zi v0)) 0 0 := by
  refine zRD_ofH hκ (by decide) (by decide) (Nat.le_of_ble_eq_true rfl) fun ω C0 hK he d0 hd0 => ?_
  subst hK
  have C := zX_od C0 d0
  refine z_iloadn C rfl rfl ?_
  refine z_tsIn (off := 318) (tgt := 319) C rfl (by decide) (by decide) (by decide) (by decide) ?_
  refine z_aloadn C rfl rfl ?_
  refine z_iloadn C rfl rfl ?_
  refine z_iloadn C rfl rfl ?_
  refine z_callvD C0 hd0 rfl ⟨by decide, by decide⟩ zS_0 hM rfl rfl (Nat.le_of_ble_eq_true rfl) ⟨Nat.le_of_ble_eq_true rfl, Nat.le_of_ble_eq_true rfl⟩ fun v1 g1 d1 q1 hD1 => ?_
  have C := zX_od C0 d1
  have hd0 := hD1
  obtain ⟨hg9, x9, rfl, hx9⟩ := q1
  rw [hg9]
  refine z_d2i C rfl ?_
  exact z_ireturnD C0 hd0 rfl he ⟨Nat.le_refl _, Nat.le_refl _⟩ rfl ⟨rfl, by rw [hx9]⟩

