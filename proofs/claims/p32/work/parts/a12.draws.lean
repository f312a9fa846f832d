/-! methods that may draw a NaN's bits: their frames over a start with another record of draws -/
def zod (ω : zO) (d : Drawn) : zO := (ω.1, ω.2.1, ω.2.2.1, ω.2.2.2.1, ω.2.2.2.2.1.setDrawn d, ω.2.2.2.2.2)
theorem zX_od {ω : zO} {mi : Nat} (C : zX ω mi) (d : Drawn) : zX (zod ω d) mi := by
  obtain ⟨⟨hx, hb, hml, hown, hnm⟩, hts, ⟨hW, hX, hbl, hs0⟩, hrest⟩ := C
  exact ⟨⟨hx, hb, hml, hown, hnm⟩, dr_words hts d, ⟨xWorld_warm (s := oS ω) (U := (oS ω).setDrawn d) (State.WarmedH.refl (oS ω)) (fun _ _ => rfl) hW, va_X.moved (u := oS ω) (U := (oS ω).setDrawn d) (State.WarmedH.refl (oS ω)).alike hX, hbl, hs0⟩, hrest⟩
def zRD (κ : zK) (i : Nat) (as : List zV) (h : zH) (Q : Option zV → zH → Prop) (mc ms : Nat) : Prop := MetD lw_cs (kL κ) (xY i) (xws i) (zrm i mc ms) (zPc κ as h) (zQq κ Q) mc ms (zfr κ)
def zED (ω : zO) (Q : Option zV → zH → Prop) (mc ms : Nat) : Prop := oQ ω = MQD lw_cs (oB ω) (zQq (oK ω) Q) (oA ω) (oS ω) mc ms (zfr (oK ω)) ∧ (oR ω).cells = mc ∧ (oR ω).slots = ms
/-- a body with a table of its own, that may draw -/
theorem zMetD_ofWH {cs : List Choice} {l : Launch} {y : MethodName} {ws ws' : List Cond} {rm : Room} {Pc : Array Value → State → Prop} {Qc : Array Value → State → Outcome → State → Prop} {mc ms : Nat} {free : Addr → Prop} {cc : ByteArray} {maxL : Nat} {ret : Option FieldType} {hh : List (Nat × Nat × Nat × Nat)}
    (hy : plainName y.cls = true) (hw : ws = Cond.codeWith y cc maxL ret hh :: ws')
    (body : ∀ p e s m args below meth c s₁, BodyLoose p l y (headSpec ws rm) cc maxL ret e s m args below meth c s₁ → c.maxLocals = maxL → Pc args s → s.drawn.sameBut s.drawn cs →
      W p l e (headSpec ws rm).room (s.setDrawn s.drawn) m args below meth c s.heap [] 0 0 (MQD cs below Qc args s mc ms free) (entryFrame m args maxL)) : MetD cs l y ws rm Pc Qc mc ms free := by
  refine MetFree.of_bodyS (code := cc) (maxLocals := maxL) (ret := ret) hy (fun args s m h hn => ?_) (fun p e s m args below meth c s₁ B hml hP _ => ?_)
  · have h0 := atoms_spec (ws := ws) h (Cond.codeWith y cc maxL ret hh) (by rw [hw]; exact List.mem_cons_self)
    obtain ⟨m9, meth, c, hn9, h1, h2, h3, h4, -, h5, h6, -⟩ := Cond.codeWith_spec h0
    obtain rfl : m = m9 := Option.some.inj (hn.symm.trans hn9)
    exact ⟨meth, c, h1, h2, h3, h4, h5, h6⟩
  · obtain ⟨t, a1, d, hd, o, b1, b2, b3, b4⟩ := body p e s m args below meth c s₁ B hml hP (Drawn.sameBut.refl _ _) s₁ (by rw [B.state]; rfl) (Stand.of_body B)
    exact ⟨t, o, a1, b1, b2, d, hd, b3, b4⟩
section ZDO
variable {κ : zK} {i : Nat} {as : List zV} {h : zH} {Q : Option zV → zH → Prop} {mc ms : Nat}
theorem zRD_of (hκ : zKg κ) (hi : i < 131) (hh : xHH i = []) (hsum : zsum as ≤ xML i)
    (body : ∀ ω : zO, zX ω i → oK ω = κ → zED ω Q mc ms → ∀ d : Drawn, (oS ω).drawn.sameBut d lw_cs → ZG (zod ω d) i 0 (zargs as 0) [] h 0 0) : zRD κ i as h Q mc ms := by
  obtain ⟨f1, f2, f3, ⟨f4, f5⟩, f6, f7⟩ := xmf_ok hi
  have hL0 := lv_entry (n := xML i) (as.map (zD (kρ κ))) (by rw [zargs_sl]; exact hsum)
  rw [← zargs_eq] at hL0
  refine MetD.ofW (cc := xBy i) (maxL := xML i) (ret := xRt i) f1 (by unfold xws; rw [xcw_nil hh]) fun p e s m args below meth c s₁ BL hml hP hd0 => ?_
  obtain ⟨⟨hav, hWd, hRel⟩, hXs⟩ := hP
  subst hav
  have hws := atoms_spec (ws := xws i) BL.pre
  have hts : ∀ w ∈ xgw, w.before (as.map (zD (kρ κ))).toArray s = true := fun w hw => hws w (List.mem_cons_of_mem _ hw)
  have hs0 : ∀ q : Nat, q < (kρ κ).1 → s.heap[q]? = (kH κ)[q]? := fun q hq => hRel.2.1.2.1 q (by have := hRel.2.2; omega) (fun h => by have h : (kρ κ).1 ≤ q := h; omega)
  have hnt : ∀ x ∈ c.exceptionTable.toList, False := by
    have hc0 := hws (Cond.code (xY i) (xBy i) (xML i) (xRt i)) (by unfold xws; rw [xcw_nil hh]; exact List.mem_cons_self)
    obtain ⟨meth9, c9, h1, h2, -, -, -, -, h7, -⟩ := Cond.code_spec BL.named hc0
    cases Option.some.inj (h1.symm.trans BL.method)
    cases Option.some.inj (h2.symm.trans (Stand.of_body BL).code)
    intro x hx
    rw [Array.isEmpty_iff.mp h7] at hx
    cases hx
  have C : zX (κ, p, e, (headSpec (xws i) (zrm i mc ms)).room, s, m, (as.map (zD (kρ κ))).toArray, below, meth, c, MQD lw_cs below (zQq κ Q) (as.map (zD (kρ κ))).toArray s mc ms (zfr κ)) i :=
    ⟨⟨BL.exec, BL.bytes, hml, findClass_of_methodNamed BL.named, (name_of_methodNamed BL.named BL.method).1⟩, hts, ⟨hWd, hXs, hκ.2, hs0⟩, (show i < 132 by omega), Nat.le_refl _, Nat.le_refl _, BL.returns, BL.notSynchronized, fun _ => hnt, hκ.1⟩
  have hb := body _ C rfl ⟨rfl, rfl, rfl⟩ s.drawn hd0
  rw [lg_entry_eq]
  exact hb s.heap [] _ hRel hL0
theorem zRD_ofH (hκ : zKg κ) (hi : i < 131) (hh : xHH i ≠ []) (hsum : zsum as ≤ xML i)
    (body : ∀ ω : zO, zX ω i → oK ω = κ → zED ω Q mc ms → ∀ d : Drawn, (oS ω).drawn.sameBut d lw_cs → ZG (zod ω d) i 0 (zargs as 0) [] h 0 0) : zRD κ i as h Q mc ms := by
  obtain ⟨f1, f2, f3, ⟨f4, f5⟩, f6, f7⟩ := xmf_ok hi
  have hL0 := lv_entry (n := xML i) (as.map (zD (kρ κ))) (by rw [zargs_sl]; exact hsum)
  rw [← zargs_eq] at hL0
  refine zMetD_ofWH (cc := xBy i) (maxL := xML i) (ret := xRt i) (hh := xHH i) f1 (by unfold xws; rw [xcw_cons hh]) fun p e s m args below meth c s₁ BL hml hP hd0 => ?_
  obtain ⟨⟨hav, hWd, hRel⟩, hXs⟩ := hP
  subst hav
  have hws := atoms_spec (ws := xws i) BL.pre
  have hts : ∀ w ∈ xgw, w.before (as.map (zD (kρ κ))).toArray s = true := fun w hw => hws w (List.mem_cons_of_mem _ hw)
  have hs0 : ∀ q : Nat, q < (kρ κ).1 → s.heap[q]? = (kH κ)[q]? := fun q hq => hRel.2.1.2.1 q (by have := hRel.2.2; omega) (fun h => by have h : (kρ κ).1 ≤ q := h; omega)
  have C : zX (κ, p, e, (headSpec (xws i) (zrm i mc ms)).room, s, m, (as.map (zD (kρ κ))).toArray, below, meth, c, MQD lw_cs below (zQq κ Q) (as.map (zD (kρ κ))).toArray s mc ms (zfr κ)) i :=
    ⟨⟨BL.exec, BL.bytes, hml, findClass_of_methodNamed BL.named, (name_of_methodNamed BL.named BL.method).1⟩, hts, ⟨hWd, hXs, hκ.2, hs0⟩, (show i < 132 by omega), Nat.le_refl _, Nat.le_refl _, BL.returns, BL.notSynchronized, fun e => absurd e hh, hκ.1⟩
  have hb := body _ C rfl ⟨rfl, rfl, rfl⟩ s.drawn hd0
  rw [lg_entry_eq]
  exact hb s.heap [] _ hRel hL0
end ZDO
section ZDR
variable {ω : zO} {mi pc a b : Nat} {ls : List (Nat × zV)} {st : List zV} {h h1 : zH} {Q : Option zV → zH → Prop} {d0 : Drawn}
theorem z_ddivD (C : zX ω mi) (hd0 : (oS ω).drawn.sameBut d0 lw_cs) {x y : UInt64} {ix iy iz alt : Nat} {ps : List Nat} (ht : zat mi pc = some (.ddiv, (pc, 1, ix, iy, iz), alt, ps)) (kk : ∀ (r : UInt64) (d1 : Drawn), alike64 r (FP.ddiv x y) = true → (oS ω).drawn.sameBut d1 lw_cs → ZG (zod ω d1) mi (pc + 1) ls (zd r :: st) h a b) : ZG (zod ω d0) mi pc ls (zd y :: zd x :: st) h a b := by
  obtain ⟨hd, hw, hE⟩ := zok C ht
  obtain ⟨⟨hx, hb, hml, hown, hnm⟩, hts, -⟩ := C
  exact fun H locs lsA hR hL => lv_ddiv_any hd0 lw_bits hx hb hd (fun r d1 hal hd1 => kk r d1 hal hd1 H locs lsA hR hL)
section
variable {ix iy iz alt mc ms : Nat} {ps : List Nat}
theorem z_ireturnD (C : zX ω mi) (hd0 : (oS ω).drawn.sameBut d0 lw_cs) {x : Int32} (ht : zat mi pc = some (.ireturn, (pc, 1, ix, iy, iz), alt, ps)) (he : zED ω Q mc ms) (ha : a ≤ mc ∧ b ≤ ms) (hrt : xRt mi = some .int) (hQ : Q (some (zi x)) h) : ZG (zod ω d0) mi pc ls [zi x] h a b := by
  obtain ⟨hd, hw, hE⟩ := zok C ht
  obtain ⟨⟨hx, hb, hml, hown, hnm⟩, hts, -, hi, hRf, hRl, hret, hlocks, -⟩ := C
  intro H locs lsA hR hL
  show W _ _ _ _ _ _ _ _ _ _ _ _ _ _ (oQ ω) _
  rw [he.1]
  exact W.endD hd0 (W.widen ha.1 ha.2 (W.iret hx hb (hret.trans hrt) (fun u hu _ => ⟨some (zi x), h, hQ, rfl, by rw [hu]; exact zRel_nil hR⟩) hR.2.1.2.2 hd hlocks))
theorem z_zreturnD (C : zX ω mi) (hd0 : (oS ω).drawn.sameBut d0 lw_cs) {x : Int32} {F : FieldType} (ht : zat mi pc = some (.ireturn, (pc, 1, ix, iy, iz), alt, ps)) (he : zED ω Q mc ms) (ha : a ≤ mc ∧ b ≤ ms) (hrt : xRt mi = some F) (hn : narrow F (.int x) = .int x) (hQ : Q (some (zi x)) h) : ZG (zod ω d0) mi pc ls [zi x] h a b := by
  obtain ⟨hd, hw, hE⟩ := zok C ht
  obtain ⟨⟨hx, hb, hml, hown, hnm⟩, hts, -, hi, hRf, hRl, hret, hlocks, -⟩ := C
  intro H locs lsA hR hL
  show W _ _ _ _ _ _ _ _ _ _ _ _ _ _ (oQ ω) _
  rw [he.1]
  exact W.endD hd0 (W.widen ha.1 ha.2 (W.zret hx hb (hret.trans hrt) hn (fun u hu _ => ⟨some (zi x), h, hQ, rfl, by rw [hu]; exact zRel_nil hR⟩) hR.2.1.2.2 hd hlocks))
theorem z_lreturnD (C : zX ω mi) (hd0 : (oS ω).drawn.sameBut d0 lw_cs) {x : Int64} (ht : zat mi pc = some (.lreturn, (pc, 1, ix, iy, iz), alt, ps)) (he : zED ω Q mc ms) (ha : a ≤ mc ∧ b ≤ ms) (hrt : xRt mi = some .long) (hQ : Q (some (zj x)) h) : ZG (zod ω d0) mi pc ls [zj x] h a b := by
  obtain ⟨hd, hw, hE⟩ := zok C ht
  obtain ⟨⟨hx, hb, hml, hown, hnm⟩, hts, -, hi, hRf, hRl, hret, hlocks, -⟩ := C
  intro H locs lsA hR hL
  show W _ _ _ _ _ _ _ _ _ _ _ _ _ _ (oQ ω) _
  rw [he.1]
  exact W.endD hd0 (W.widen ha.1 ha.2 (W.lret hx hb (hret.trans hrt) (fun u hu _ => ⟨some (zj x), h, hQ, rfl, by rw [hu]; exact zRel_nil hR⟩) hR.2.1.2.2 hd hlocks))
theorem z_dreturnD (C : zX ω mi) (hd0 : (oS ω).drawn.sameBut d0 lw_cs) {x : UInt64} (ht : zat mi pc = some (.dreturn, (pc, 1, ix, iy, iz), alt, ps)) (he : zED ω Q mc ms) (ha : a ≤ mc ∧ b ≤ ms) (hrt : xRt mi = some .double) (hQ : Q (some (zd x)) h) : ZG (zod ω d0) mi pc ls [zd x] h a b := by
  obtain ⟨hd, hw, hE⟩ := zok C ht
  obtain ⟨⟨hx, hb, hml, hown, hnm⟩, hts, -, hi, hRf, hRl, hret, hlocks, -⟩ := C
  intro H locs lsA hR hL
  show W _ _ _ _ _ _ _ _ _ _ _ _ _ _ (oQ ω) _
  rw [he.1]
  exact W.endD hd0 (W.widen ha.1 ha.2 (W.dret hx hb (hret.trans hrt) (fun u hu _ => ⟨some (zd x), h, hQ, rfl, by rw [hu]; exact zRel_nil hR⟩) hR.2.1.2.2 hd hlocks))
end
/-- behind a run of a callee that may draw -/
theorem z_afterD {H : Heap} {locs : List Loc} {lsA : Array Slot} {st0 : List Value} {mc ms : Nat} {av : Array Value} (hd0 : (oS ω).drawn.sameBut d0 lw_cs)
    (hr : va_RunD lw_cs (oP ω) (kL (oK ω)) (oE ω) (oR ω) ((oS ω).setDrawn d0) (oM ω) (oA ω) (oB ω) (oT ω) (oC ω) H locs a b mc ms (F0 (oM ω) pc lsA st0) (st.map (zD (kρ (oK ω)))) (zQq (oK ω) Q av) (zfr (oK ω))) (hR : zRel (kD (oK ω)) (kC (oK ω)) (kρ (oK ω)) (kH (oK ω)) h H locs) (hL : lv_has lsA (xML mi) (zM (kρ (oK ω)) ls))
    (kk : ∀ v h1 d1, Q v h1 → (oS ω).drawn.sameBut d1 lw_cs → ZG (zod ω d1) mi (pc + 3) ls (v.toList ++ st) h1 (a + mc) (b + ms)) : W (oP ω) (kL (oK ω)) (oE ω) (oR ω) ((oS ω).setDrawn d0) (oM ω) (oA ω) (oB ω) (oT ω) (oC ω) H locs a b (oQ ω) (F0 (oM ω) pc lsA st0) := by
  intro T hT X
  obtain ⟨v', st₀, t9, T', L, d', hd', h0, X', hLL, e1, e2, ⟨v, h1, hQ, q2, q3⟩, go⟩ := hr T hT X
  have hd1 : (oS ω).drawn.sameBut d' lw_cs := Drawn.sameBut.trans hd0 hd'
  have hv : v' = v.map (zD (kρ (oK ω))) := by injection q2
  have hs : v'.toList ++ st.map (zD (kρ (oK ω))) = (v.toList ++ st).map (zD (kρ (oK ω))) := by
    rw [hv, List.map_append]
    cases v <;> rfl
  rw [← e1] at q3
  have q4 : zRel (kD (oK ω)) (kC (oK ω)) (kρ (oK ω)) (kH (oK ω)) h1 T'.heap (locs ++ L) := by
    obtain ⟨g1, g2, g3⟩ := q3
    refine ⟨g1, ⟨g2.1, g2.2.1, fun z hz => ?_⟩, g3⟩
    rcases List.mem_append.mp hz with hz | hz
    · exact hR.2.1.2.2 z hz
    · exact hLL z hz
  obtain ⟨t2, a1, b1⟩ := kk v h1 d' hQ hd1 T'.heap (locs ++ L) lsA q4 hL T' rfl X'
  refine ⟨t2, go t2 ?_, b1⟩
  show Steps (oP ω).tables (oE ω) (oB ω) (T'.setTop (F0 (oM ω) (pc + 3) lsA (v'.toList ++ st.map (zD (kρ (oK ω)))))) t2
  rw [hs]
  exact a1
section
variable {j idx iy iz alt mc ms : Nat} {ps : List Nat} {as : List zV} {st0 : List zV}
theorem z_callvD (C : zX ω mi) (hd0 : (oS ω).drawn.sameBut d0 lw_cs) {ci k n : Nat} (ht : zat mi pc = some (.invokevirtual idx, (pc, 3, j, iy, ci), alt, ps)) (hj : j < 131 ∧ zh j + 1 ≤ zh mi) (hS : zS k = (0, ci, n)) (hM : zRD (oK ω) j (zr (some k) :: as) h Q mc ms) (hn : as.length = (xmeths j).2.2.1) (hst : st0 = as.reverse ++ zr (some k) :: st) (hsum : zsum st ≤ 8) (hca : a + mc ≤ (oR ω).cells ∧ b + ms ≤ (oR ω).slots)
    (kk : ∀ v h1 d1, Q v h1 → (oS ω).drawn.sameBut d1 lw_cs → ZG (zod ω d1) mi (pc + 3) ls (v.toList ++ st) h1 (a + mc) (b + ms)) : ZG (zod ω d0) mi pc ls st0 h a b := by
  subst hst
  intro H locs lsA hR hL
  have C0 := zX_od C d0
  have hpre := z_pre C0 hR (zr (some k) :: as)
  have hroom := zroom C hj.1 hj.2 mc ms
  obtain ⟨hd, hw, hE⟩ := zok C ht
  obtain ⟨⟨hx, hb, hml, hown, hnm⟩, hts, ⟨hW, hX, hbl, hs0⟩, -⟩ := C0
  obtain ⟨f1, f2, f3, ⟨f4, -⟩, f5, f6⟩ := xmf_ok hj.1
  have hE3 : (decide (3 = 3) && (decide (j < 131) && (decide (iy = 0) && (decide (ci < 11) && (decide (xcC ci = (xY j).cls) && decide (xHH j = [])))))) = true := hE
  simp only [Bool.and_eq_true, decide_eq_true_eq] at hE3
  obtain ⟨-, -, -, hci, hcls, hh⟩ := hE3
  have hw : ∀ w ∈ [Cond.methodLink (xY mi).cls idx (xY j), .instanceMethod (xY j), .selects (xY j).cls (xY j) (xY j), .initialized (xY j).cls], w ∈ lw_tbl ∧ (goodWord w = true ∨ xnest w = true) := hw
  have hgood := xws_good (xmw j hj.1)
  have hl : (Cond.methodLink (xY mi).cls idx (xY j)).before (oA ω) (oS (zod ω d0)) = true := hts _ (xgw_of (hw _ (by simp)).1 rfl)
  have hi2 : (Cond.instanceMethod (xY j)).before (oA ω) (oS (zod ω d0)) = true := hts _ (xgw_of (hw _ (by simp)).1 rfl)
  have hse : (Cond.selects (xY j).cls (xY j) (xY j)).before (oA ω) (oS (zod ω d0)) = true := hts _ (xgw_of (hw (.selects (xY j).cls (xY j) (xY j)) (by simp)).1 rfl)
  have hin : (Cond.initialized (xY j).cls).before (oA ω) (oS (zod ω d0)) = true := hts _ (xgw_of (hw (.initialized (xY j).cls) (by simp)).1 rfl)
  have h8 := lv_room (m := oM ω) (pc := pc) (ls := lsA) (rest := (as.reverse ++ zr (some k) :: st).map (zD (kρ (oK ω)))) (st := st.map (zD (kρ (oK ω)))) (by rw [zsum_eq]; exact hsum)
  have hstk : (F0 (oM ω) pc lsA ((as.reverse ++ zr (some k) :: st).map (zD (kρ (oK ω))))).stack = (as.map (zD (kρ (oK ω)))).reverse ++ .ref ((kρ (oK ω)).1 + k) :: st.map (zD (kρ (oK ω))) := by
    show (as.reverse ++ zr (some k) :: st).map (zD (kρ (oK ω))) = _
    rw [List.map_append, List.map_reverse]
    rfl
  have S : CallFix (oP ω) (oM ω) (oC ω) (xBy mi) (xML mi) (oS (zod ω d0)) (oA ω) xgw (xY mi).cls := ⟨hx, hb, hml, hown, hts⟩
  have hrecv := va_recv hW.1 hR.1 (xfacts (ρ := kρ (oK ω)) hci).1 (zent (ca := kC (oK ω)) (ρ := kρ (oK ω)) (h := h) hS)
  rw [show (xcC ci, xcT ci, xcN ci).1 = (xY j).cls from hcls] at hrecv
  exact z_afterD (ω := ω) hd0 (va_runV_D (C := (xY j).cls) (n := (xmeths j).2.2.1) S hM ⟨callB_of _ hts hgood (by unfold xws; rw [xcw_nil hh]) rfl rfl hin hl ⟨f2.1, f2.2, f3⟩ hroom, hi2, hse⟩ ⟨zPc_blind, hrecv, hpre⟩ rfl (by simpa using hn) hL.1 hstk h8 hd ⟨hca.1, hca.2⟩) hR hL kk
theorem z_callsD (C : zX ω mi) (hd0 : (oS ω).drawn.sameBut d0 lw_cs) (ht : zat mi pc = some (.invokestatic idx, (pc, 3, j, iy, iz), 0, ps)) (hj : j < 131 ∧ zh j + 1 ≤ zh mi ∧ xHH j = []) (hM : zRD (oK ω) j as h Q mc ms) (hn : as.length = (xmeths j).2.2.1) (hst : st0 = as.reverse ++ st) (hsum : zsum st ≤ 8) (hca : a + mc ≤ (oR ω).cells ∧ b + ms ≤ (oR ω).slots)
    (kk : ∀ v h1 d1, Q v h1 → (oS ω).drawn.sameBut d1 lw_cs → ZG (zod ω d1) mi (pc + 3) ls (v.toList ++ st) h1 (a + mc) (b + ms)) : ZG (zod ω d0) mi pc ls st0 h a b := by
  subst hst
  intro H locs lsA hR hL
  have C0 := zX_od C d0
  have hpre := z_pre C0 hR as
  have hroom := zroom C hj.1 hj.2.1 mc ms
  obtain ⟨hd, hw, hE⟩ := zok C ht
  obtain ⟨⟨hx, hb, hml, hown, hnm⟩, hts, -⟩ := C0
  obtain ⟨f1, f2, f3, ⟨f4, -⟩, f5, f6⟩ := xmf_ok hj.1
  have hw : ∀ w ∈ [xwml 0 (xY mi).cls idx j, .static (xY j), .initialized (xY j).cls], w ∈ lw_tbl ∧ (goodWord w = true ∨ xnest w = true) := hw
  have hgood := xws_good (xmw j hj.1)
  have hst : (Cond.static (xY j)).before (oA ω) (oS (zod ω d0)) = true := hts _ (xgw_of (hw (.static (xY j)) (by simp)).1 rfl)
  have hin : (Cond.initialized (xY j).cls).before (oA ω) (oS (zod ω d0)) = true := hts _ (xgw_of (hw (.initialized (xY j).cls) (by simp)).1 rfl)
  have hl : (Cond.methodLink (xY mi).cls idx (xY j)).before (oA ω) (oS (zod ω d0)) = true := hts _ (xgw_of (hw (.methodLink (xY mi).cls idx (xY j)) (by simp [xwml])).1 rfl)
  have h8 := lv_room (m := oM ω) (pc := pc) (ls := lsA) (rest := (as.reverse ++ st).map (zD (kρ (oK ω)))) (st := st.map (zD (kρ (oK ω)))) (by rw [zsum_eq]; exact hsum)
  have hstk : (F0 (oM ω) pc lsA ((as.reverse ++ st).map (zD (kρ (oK ω))))).stack = (as.map (zD (kρ (oK ω)))).reverse ++ st.map (zD (kρ (oK ω))) := by
    show (as.reverse ++ st).map (zD (kρ (oK ω))) = _
    rw [List.map_append, List.map_reverse]
  have S : CallFix (oP ω) (oM ω) (oC ω) (xBy mi) (xML mi) (oS (zod ω d0)) (oA ω) xgw (xY mi).cls := ⟨hx, hb, hml, hown, hts⟩
  exact z_afterD (ω := ω) hd0 (va_runS_D (n := (xmeths j).2.2.1) S hM ⟨callB_of _ hts hgood (by unfold xws; rw [xcw_nil hj.2.2]) rfl rfl hin hl ⟨f2.1, f2.2, f3⟩ hroom, hst⟩ ⟨zPc_blind, hpre⟩ rfl (by simpa using hn) hL.1 hstk h8 hd ⟨hca.1, hca.2⟩) hR hL kk
end
end ZDR
