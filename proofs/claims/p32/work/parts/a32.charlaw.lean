/-! the law's charAt -/
section ZCHR
variable {ω : zO} {mi pc a b : Nat} {ls : List (Nat × zV)} {st : List zV} {h h1 : zH} {κ : zK} {Q : Option zV → zH → Prop}
variable {j idx iy iz alt mc ms : Nat} {ps : List Nat} {as : List zV} {st0 : List zV} {Qc : Array Value → State → Outcome → State → Prop} {XC : String → State → State → Prop}
theorem z_runSR {rest : List Value} (C : zX ω mi) (ht : zat mi pc = some (.invokestatic idx, (pc, 3, j, iy, iz), alt, ps)) (hj : j < 131) (hz : zh j + 1 ≤ zh mi) (hh : xHH j = []) (hM : vx_Met (kL (oK ω)) (xY j) (xws j) (zrm j mc ms) (zPc (oK ω) as h) Qc XC mc ms (zfr (oK ω))) (hn : as.length = (xmeths j).2.2.1) (hcat : (rest.map fun v => v.category).sum ≤ 8) (hca : a + mc ≤ (oR ω).cells) (hcb : b + ms ≤ (oR ω).slots)
    {H : Heap} {locs : List Loc} {lsA : Array Slot} (hR : zRel (kD (oK ω)) (kC (oK ω)) (kρ (oK ω)) (kH (oK ω)) h H locs) (hL : lv_has lsA (xML mi) (zM (kρ (oK ω)) ls)) :
    vx_Run (oP ω) (kL (oK ω)) (oE ω) (oR ω) (oS ω) (oM ω) (oA ω) (oB ω) (oT ω) (oC ω) H locs a b mc ms (F0 (oM ω) pc lsA ((as.map (zD (kρ (oK ω)))).reverse ++ rest)) rest (Qc (as.map (zD (kρ (oK ω)))).toArray) XC (zfr (oK ω)) := by
  have hpre := z_pre C hR as
  have hroom := zroom C hj hz mc ms
  obtain ⟨hd, hw, hE⟩ := zok C ht
  obtain ⟨⟨hx, hb, hml, hown, hnm⟩, hts, ⟨hW, hX, hbl, hs0⟩, -⟩ := C
  obtain ⟨f1, f2, f3, ⟨f4, -⟩, f5, f6⟩ := xmf_ok hj
  have hw : ∀ w ∈ [xwml alt (xY mi).cls idx j, .static (xY j), .initialized (xY j).cls], w ∈ lw_tbl ∧ (goodWord w = true ∨ xnest w = true) := hw
  have hcw := xmw j hj
  have hgood := xws_good hcw
  have hst : (Cond.static (xY j)).before (oA ω) (oS ω) = true := hts _ (xgw_of (hw (.static (xY j)) (by simp)).1 rfl)
  have hin : (Cond.initialized (xY j).cls).before (oA ω) (oS ω) = true := hts _ (xgw_of (hw (.initialized (xY j).cls) (by simp)).1 rfl)
  have h8 := lv_room (m := oM ω) (pc := pc) (ls := lsA) (rest := (as.map (zD (kρ (oK ω)))).reverse ++ rest) (st := rest) hcat
  have hstk : (F0 (oM ω) pc lsA ((as.map (zD (kρ (oK ω)))).reverse ++ rest)).stack = (as.map (zD (kρ (oK ω)))).reverse ++ rest := rfl
  have S : CallFix (oP ω) (oM ω) (oC ω) (xBy mi) (xML mi) (oS ω) (oA ω) xgw (xY mi).cls := ⟨hx, hb, hml, hown, hts⟩
  by_cases h0 : alt = 0
  · subst h0
    have hl : (Cond.methodLink (xY mi).cls idx (xY j)).before (oA ω) (oS ω) = true := hts _ (xgw_of (hw (.methodLink (xY mi).cls idx (xY j)) (by simp [xwml])).1 rfl)
    exact vx_runS (n := (xmeths j).2.2.1) S hM ⟨callB_of _ hts hgood (by unfold xws; rw [xcw_nil hh]) rfl rfl hin hl ⟨f2.1, f2.2, f3⟩ hroom, hst⟩ ⟨zPc_blind, hpre⟩ rfl (by simpa using hn) hL.1 hstk h8 hd ⟨hca, hcb⟩
  · have hl : va_Nw (.methodLinkNest (xY mi).cls idx (xY j) (xhost alt)) (oS ω) := hW.2.1 _ (hw (.methodLinkNest (xY mi).cls idx (xY j) (xhost alt)) (by simp [xwml, h0])).1 rfl
    exact vx_runSN (n := (xmeths j).2.2.1) S hM ⟨va_cnB _ hts hgood (by unfold xws; rw [xcw_nil hh]) rfl rfl hl hin ⟨f2.1, f2.2, f3⟩ hroom, hst, trivial⟩ ⟨zPc_blind, hpre⟩ rfl (by simpa using hn) hL.1 hstk h8 hd ⟨hca, hcb⟩
theorem z_afterR {rest : List Value} {H : Heap} {locs : List Loc} {lsA : Array Slot} {st0 : List Value} {mc ms : Nat} {av : Array Value}
    (hr : vx_Run (oP ω) (kL (oK ω)) (oE ω) (oR ω) (oS ω) (oM ω) (oA ω) (oB ω) (oT ω) (oC ω) H locs a b mc ms (F0 (oM ω) pc lsA st0) rest (zQq (oK ω) Q av) zX0 (zfr (oK ω))) (hR : zRel (kD (oK ω)) (kC (oK ω)) (kρ (oK ω)) (kH (oK ω)) h H locs) (hL : lv_has lsA (xML mi) (zM (kρ (oK ω)) ls))
    (kk : ∀ v h1, Q v h1 → ∀ (H1 : Heap) (locs1 : List Loc), zRel (kD (oK ω)) (kC (oK ω)) (kρ (oK ω)) (kH (oK ω)) h1 H1 locs1 → W (oP ω) (kL (oK ω)) (oE ω) (oR ω) (oS ω) (oM ω) (oA ω) (oB ω) (oT ω) (oC ω) H1 locs1 (a + mc) (b + ms) (oQ ω) (F0 (oM ω) (pc + 3) lsA ((v.map (zD (kρ (oK ω)))).toList ++ rest))) : W (oP ω) (kL (oK ω)) (oE ω) (oR ω) (oS ω) (oM ω) (oA ω) (oB ω) (oT ω) (oC ω) H locs a b (oQ ω) (F0 (oM ω) pc lsA st0) := by
  intro T hT X
  rcases hr T hT X with ⟨v', st₀, t9, T', L, h0, X', hLL, e1, e2, ⟨v, h1, hQ, q2, q3⟩, go⟩ | ⟨q, st₀, t9, T', L, E, ce, h0, X', hLL, e1, e2, hF, hce, hcv, hcl, go⟩
  · have hv : v' = v.map (zD (kρ (oK ω))) := by
      have := q2
      injection this
    rw [← e1] at q3
    have q4 : zRel (kD (oK ω)) (kC (oK ω)) (kρ (oK ω)) (kH (oK ω)) h1 T'.heap (locs ++ L) := by
      obtain ⟨g1, g2, g3⟩ := q3
      refine ⟨g1, ⟨g2.1, g2.2.1, fun z hz => ?_⟩, g3⟩
      rcases List.mem_append.mp hz with hz | hz
      · exact hR.2.1.2.2 z hz
      · exact hLL z hz
    obtain ⟨t2, a1, b1⟩ := kk v h1 hQ T'.heap (locs ++ L) q4 T' rfl X'
    refine ⟨t2, go t2 ?_, b1⟩
    show Steps (oP ω).tables (oE ω) (oB ω) (T'.setTop (F0 (oM ω) (pc + 3) lsA (v'.toList ++ rest))) t2
    rw [hv]
    exact a1
  · exact hF.elim
end ZCHR
set_option maxHeartbeats 400000 in
set_option maxRecDepth 100000 in
theorem jwCh : Cond.code yJ0_charAt_5068e cJ0_charAt_5068e 2 (some .char) ∈ lw_tbl ∧ Cond.instanceMethod yJ0_charAt_5068e ∈ lw_tbl ∧ Cond.initialized (yJ0_charAt_5068e).cls ∈ lw_tbl ∧ Cond.methodLink (xY 131).cls 145 yJ0_charAt_5068e ∈ lw_tbl ∧ Cond.selects "java/lang/String" yJ0_charAt_5068e yJ0_charAt_5068e ∈ lw_tbl := ⟨by decide +kernel, by decide +kernel, by decide +kernel, by decide +kernel, by decide +kernel⟩
set_option maxHeartbeats 400000 in
set_option maxRecDepth 20000 in
theorem z_chop {ω : zO} (C : zX ω 131) {h : zH} {a b : Nat} {ls : List (Nat × zV)} {x : Int32} (h6 : zlook ls 6 = some (zi x)) (ha : a ≤ (oR ω).cells ∧ b ≤ (oR ω).slots) (kk : ∀ j, j < 24 → ZG ω 131 194 ls [zi (jchr j)] h a b) : ZG ω 131 180 ls [] h a b := by
  intro H locs lsA hR hL
  obtain ⟨⟨hx, hb, hml, hown, hnm⟩, hts, ⟨hW, hX, hbl, hs0⟩, hi, hRf, hRl, hret, hlocks, -⟩ := id C
  obtain ⟨K, V, s1, s2, s3, s4, s5⟩ := hW.2.2.2.2.1.2
  refine va_ldcS hx hb hown s3 (by decide +kernel) ?_
  refine lv_iload (i := 6) hx hb (by decide +kernel) (zl_at hL h6) ?_
  refine lv_iconst (n := 2) (v := 2) hx hb (by decide +kernel) (by decide) ?_
  refine lv_ishr hx hb (by decide +kernel) ?_
  refine lv_bipush (n := 24) (v := nI 24) hx hb (by decide +kernel) (by decide) ?_
  refine z_afterR (h := h) (ls := ls) (mc := 0) (ms := 0) (rest := [.ref (K 1)]) (z_runSR (pc := 188) (as := [zi (x >>> (2 &&& 31)), zi (nI 24)]) C rfl (by decide) (by decide) (by decide) (q_low (zKg_of C) (by decide) (by decide) h) rfl (Nat.le_of_ble_eq_true rfl) ha.1 ha.2 hR hL) hR hL ?_
  intro v h1 q H1 locs1 hR1
  obtain ⟨q1, j, hj, q2⟩ := q
  rw [q1] at hR1
  rw [q2]
  have hq : ∀ q : Nat, ¬ (kρ (oK ω)).1 ≤ q → H1[q]? = (oS ω).heap[q]? := fun q hq => by
    have hB : (kρ (oK ω)).1 = (kH (oK ω)).size := hR.2.2
    rw [hs0 q (by omega)]
    exact hR1.2.1.2.1 q (by omega) hq
  have hJ : jW (fun q => (kρ (oK ω)).1 ≤ q) K V (oS ω) := ⟨s1, s4, s5⟩
  have S : CallFix (oP ω) (oM ω) (oC ω) (xBy 131) (xML 131) (oS ω) (oA ω) xgw (xY 131).cls := ⟨hx, hb, hml, hown, hts⟩
  obtain ⟨cell, c1, c2, c3, c4⟩ := (s1.1 1 (by decide)).1
  have hrecv : ∃ cellB : Cell, H1[K 1]? = some cellB ∧ cellB.vm.isStatics = false ∧ (oS ω).vm.findClass "java/lang/String" = some cellB.cls := ⟨cell, by rw [hq _ c4]; exact c1, c2, c3⟩
  have h8 := lv_room (m := oM ω) (pc := 191) (ls := lsA) (rest := [.int (nI j), .ref (K 1)]) (st := []) (by decide)
  exact j_after (mc := 0) (vx_runV (C := "java/lang/String") (n := 1) (As := [.int (nI j)]) S (j_chS (A := fun q => (kρ (oK ω)).1 ≤ q) (K := K) (V := V) hj) ⟨callB_of _ hts (jgood (xgw_of jwCh.1 rfl)) rfl rfl rfl (hts _ (xgw_of jwCh.2.2.1 rfl)) (hts _ (xgw_of jwCh.2.2.2.1 rfl)) ⟨by decide, by decide, by decide +kernel⟩ ⟨by
      have h1 : 4 ≤ (oR ω).frames := by omega
      exact h1, by
      have h1 : 8 + (2 + 11) + (60 * 3 + 40) ≤ (oR ω).locals := by omega
      exact h1⟩, hts _ (xgw_of jwCh.2.1 rfl), hts _ (xgw_of jwCh.2.2.2.2 rfl)⟩ ⟨jblind, hrecv, fun U hU hw => ⟨rfl, jW_of hw (fun a hA => by rw [hU]; exact hq a hA) hJ⟩⟩ rfl rfl hL.1 rfl h8 (show decode (xBy 131) 191 = Except.ok (Instr.invokevirtual 145, 3) by decide +kernel) ⟨ha.1, ha.2⟩) (kk j hj H1 locs1 lsA hR1 hL)
