/-! the law's call: its table, what it catches, how it is called -/
def zcn (E : Nat) : Nat := match E with
  | 4 => 98
  | 0 => 100
  | 5 => 102
  | 3 => 104
  | 2 => 106
  | _ => 0
def zcnm (i : Nat) : String := match i with
  | 98 => "java/lang/IndexOutOfBoundsException"
  | 100 => "java/lang/IllegalArgumentException"
  | 102 => "java/lang/IllegalStateException"
  | 104 => "java/lang/UnsupportedOperationException"
  | 106 => "java/util/NoSuchElementException"
  | _ => ""
/-- which handler takes class E at pc -/
def zct (E pc : Nat) : List (Nat × Nat × Nat × Nat) → Option Nat
  | [] => none
  | q :: l => if q.1 ≤ pc ∧ pc < q.2.1 then (if q.2.2.2 = zcn E then some q.2.2.1 else if q.2.2.2 ∈ [98, 100, 102, 104, 106] ∧ (xexN E, zcnm q.2.2.2) ∈ xncs then zct E pc l else none) else zct E pc l
set_option maxRecDepth 100000 in
theorem zcw98 : Cond.classLink "PolyglotPierLaw" 98 "java/lang/IndexOutOfBoundsException" ∈ lw_tbl := by decide +kernel
set_option maxRecDepth 100000 in
theorem zcw100 : Cond.classLink "PolyglotPierLaw" 100 "java/lang/IllegalArgumentException" ∈ lw_tbl := by decide +kernel
set_option maxRecDepth 100000 in
theorem zcw102 : Cond.classLink "PolyglotPierLaw" 102 "java/lang/IllegalStateException" ∈ lw_tbl := by decide +kernel
set_option maxRecDepth 100000 in
theorem zcw104 : Cond.classLink "PolyglotPierLaw" 104 "java/lang/UnsupportedOperationException" ∈ lw_tbl := by decide +kernel
set_option maxRecDepth 100000 in
theorem zcw106 : Cond.classLink "PolyglotPierLaw" 106 "java/util/NoSuchElementException" ∈ lw_tbl := by decide +kernel
theorem zcw {i : Nat} (h : i ∈ [98, 100, 102, 104, 106]) : Cond.classLink "PolyglotPierLaw" i (zcnm i) ∈ lw_tbl := by
  simp only [List.mem_cons, List.mem_nil_iff, or_false] at h
  rcases h with rfl | rfl | rfl | rfl | rfl
  · exact zcw98
  · exact zcw100
  · exact zcw102
  · exact zcw104
  · exact zcw106
theorem zct_ok {E pc hp : Nat} (hE : zcn E ∈ [98, 100, 102, 104, 106]) : ∀ {l : List (Nat × Nat × Nat × Nat)}, zct E pc l = some hp → ∃ (pre : List ExceptionTableEntry) (x : ExceptionTableEntry) (suf : List ExceptionTableEntry), tableOf l = pre ++ x :: suf ∧ (∀ z ∈ pre, covers z pc = false ∨ (z.catchType ≠ 0 ∧ ∃ nm : String, Cond.classLink "PolyglotPierLaw" z.catchType nm ∈ lw_tbl ∧ (xexN E, nm) ∈ xncs)) ∧ covers x pc = true ∧ x.catchType = zcn E ∧ x.handlerPc = hp
  | [], h => by cases h
  | q :: l, h => by
    unfold zct at h
    split at h
    · rename_i hc
      split at h
      · rename_i he
        injection h with h
        refine ⟨[], ⟨q.1, q.2.1, q.2.2.1, q.2.2.2⟩, tableOf l, rfl, (fun z hz => by cases hz), ?_, he, h⟩
        show (decide (q.1 ≤ pc) && decide (pc < q.2.1)) = true
        rw [decide_eq_true hc.1, decide_eq_true hc.2]
        rfl
      · split at h
        · rename_i hp2
          obtain ⟨pre, x, suf, e1, e2, e3⟩ := zct_ok hE h
          refine ⟨⟨q.1, q.2.1, q.2.2.1, q.2.2.2⟩ :: pre, x, suf, by show _ :: tableOf l = _; rw [e1]; rfl, fun z hz => ?_, e3⟩
          rcases List.mem_cons.mp hz with rfl | hz
          · refine Or.inr ⟨fun q0 => ?_, _, zcw hp2.1, hp2.2⟩
            have q0 : q.2.2.2 = 0 := q0
            rw [q0] at hp2
            exact absurd hp2.1 (by decide)
          · exact e2 z hz
        · cases h
    · rename_i hc
      obtain ⟨pre, x, suf, e1, e2, e3⟩ := zct_ok hE h
      refine ⟨⟨q.1, q.2.1, q.2.2.1, q.2.2.2⟩ :: pre, x, suf, by show _ :: tableOf l = _; rw [e1]; rfl, fun z hz => ?_, e3⟩
      rcases List.mem_cons.mp hz with rfl | hz
      · refine Or.inl ?_
        show (decide (q.1 ≤ pc) && decide (pc < q.2.1)) = false
        rcases Decidable.not_and_iff_or_not.mp hc with q0 | q0
        · rw [decide_eq_false q0, Bool.false_and]
        · rw [decide_eq_false q0, Bool.and_false]
      · exact e2 z hz
def zhv (hp : Nat) : Option Int32 := match hp with
  | 333 => some (Int32.ofInt (-1001))
  | 339 => some (Int32.ofInt (-1002))
  | 345 => some (Int32.ofInt (-1003))
  | 351 => some (Int32.ofInt (-1004))
  | 357 => some (Int32.ofInt (-1005))
  | _ => none
set_option maxRecDepth 100000 in
theorem zcst4 : Cond.castable "java/lang/IndexOutOfBoundsException" "java/lang/IndexOutOfBoundsException" ∈ lw_tbl := by decide +kernel
set_option maxRecDepth 100000 in
theorem zcst0 : Cond.castable "java/lang/IllegalArgumentException" "java/lang/IllegalArgumentException" ∈ lw_tbl := by decide +kernel
set_option maxRecDepth 100000 in
theorem zcst5 : Cond.castable "java/lang/IllegalStateException" "java/lang/IllegalStateException" ∈ lw_tbl := by decide +kernel
set_option maxRecDepth 100000 in
theorem zcst3 : Cond.castable "java/lang/UnsupportedOperationException" "java/lang/UnsupportedOperationException" ∈ lw_tbl := by decide +kernel
set_option maxRecDepth 100000 in
theorem zcst2 : Cond.castable "java/util/NoSuchElementException" "java/util/NoSuchElementException" ∈ lw_tbl := by decide +kernel
theorem zE5 {E : Nat} (hE : zcn E ∈ [98, 100, 102, 104, 106]) : E = 4 ∨ E = 0 ∨ E = 5 ∨ E = 3 ∨ E = 2 := by
  unfold zcn at hE
  split at hE <;> first | (left; rfl) | (right; left; rfl) | (right; right; left; rfl) | (right; right; right; left; rfl) | (right; right; right; right; rfl) | exact absurd hE (by decide)
theorem zcst {E : Nat} (hE : zcn E ∈ [98, 100, 102, 104, 106]) : Cond.castable (xexN E) (xexN E) ∈ lw_tbl ∧ zcnm (zcn E) = xexN E := by
  rcases zE5 hE with rfl | rfl | rfl | rfl | rfl
  · exact ⟨zcst4, rfl⟩
  · exact ⟨zcst0, rfl⟩
  · exact ⟨zcst5, rfl⟩
  · exact ⟨zcst3, rfl⟩
  · exact ⟨zcst2, rfl⟩
section ZCT
variable {ω : zO} {pc a b : Nat} {ls : List (Nat × zV)} {st : List zV} {h h1 : zH}
/-- a handler's three instructions -/
theorem z_hand (C : zX ω 128) {hp : Nat} {vv : Int32} (hv : zhv hp = some vv) {mc ms : Nat} (he : zER ω (some (zi vv)) h mc ms) (ha : a ≤ mc ∧ b ≤ ms) {H : Heap} {locs : List Loc} {lsA : Array Slot} {q : Addr} (hR : zRel (kD (oK ω)) (kC (oK ω)) (kρ (oK ω)) (kH (oK ω)) h H locs) (hL : lv_has lsA (xML 128) (zM (kρ (oK ω)) ls)) :
    W (oP ω) (kL (oK ω)) (oE ω) (oR ω) (oS ω) (oM ω) (oA ω) (oB ω) (oT ω) (oC ω) H locs a b (oQ ω) (F0 (oM ω) hp lsA [.ref q]) := by
  obtain ⟨⟨hx, hb, hml, hown, hnm⟩, hts, -, hi, hRf, hRl, hret, hlocks, -⟩ := C
  have hr : xRt 128 = some .int := rfl
  have fin : ∀ (ls' : Array Slot) (pc' : Nat), decode (xBy 128) pc' = .ok (.ireturn, 1) → W (oP ω) (kL (oK ω)) (oE ω) (oR ω) (oS ω) (oM ω) (oA ω) (oB ω) (oT ω) (oC ω) H locs a b (oQ ω) (F0 (oM ω) pc' ls' [.int vv]) := by
    intro ls' pc' hd
    rw [he.1]
    exact W.widen ha.1 ha.2 (vx_ret (W.iret hx hb (hret.trans hr) (fun u hu _ => ⟨rfl, by rw [hu]; exact zRel_nil hR⟩) hR.2.1.2.2 hd hlocks))
  unfold zhv at hv
  split at hv
  · injection hv with hv
    subst hv
    refine lv_astore (i := 6) hx hb (by decide +kernel) hL (by decide +kernel) rfl (fun ls' hl' => ?_)
    refine lv_sipush (n := -1001) (v := Int32.ofInt (-1001)) hx hb (by decide +kernel) (by decide) ?_
    exact fin ls' _ (by decide +kernel)
  · injection hv with hv
    subst hv
    refine lv_astore (i := 6) hx hb (by decide +kernel) hL (by decide +kernel) rfl (fun ls' hl' => ?_)
    refine lv_sipush (n := -1002) (v := Int32.ofInt (-1002)) hx hb (by decide +kernel) (by decide) ?_
    exact fin ls' _ (by decide +kernel)
  · injection hv with hv
    subst hv
    refine lv_astore (i := 6) hx hb (by decide +kernel) hL (by decide +kernel) rfl (fun ls' hl' => ?_)
    refine lv_sipush (n := -1003) (v := Int32.ofInt (-1003)) hx hb (by decide +kernel) (by decide) ?_
    exact fin ls' _ (by decide +kernel)
  · injection hv with hv
    subst hv
    refine lv_astore (i := 6) hx hb (by decide +kernel) hL (by decide +kernel) rfl (fun ls' hl' => ?_)
    refine lv_sipush (n := -1004) (v := Int32.ofInt (-1004)) hx hb (by decide +kernel) (by decide) ?_
    exact fin ls' _ (by decide +kernel)
  · injection hv with hv
    subst hv
    refine lv_astore (i := 6) hx hb (by decide +kernel) hL (by decide +kernel) rfl (fun ls' hl' => ?_)
    refine lv_sipush (n := -1005) (v := Int32.ofInt (-1005)) hx hb (by decide +kernel) (by decide) ?_
    exact fin ls' _ (by decide +kernel)
  · cases hv
/-- a call in the law's call that throws: caught there -/
theorem z_callvC (C : zX ω 128) (htab : (oC ω).exceptionTable.toList = tableOf (xHH 128)) {j idx iy alt ci k n : Nat} {ps : List Nat} {as : List zV} {st0 : List zV} {mc ms mc' ms' E hp : Nat} {vv : Int32} (ht : zat 128 pc = some (.invokevirtual idx, (pc, 3, j, iy, ci), alt, ps)) (hj : j < 131 ∧ zh j + 1 ≤ zh 128) (hS : zS k = (0, ci, n)) (hE : zcn E ∈ [98, 100, 102, 104, 106] ∧ zct E pc (xHH 128) = some hp ∧ zhv hp = some vv) (he : zER ω (some (zi vv)) h1 mc' ms') (hM : zThr (oK ω) j (zr (some k) :: as) h E h1 mc ms) (hn : as.length = (xmeths j).2.2.1) (hst : st0 = as.reverse ++ zr (some k) :: st) (hsum : zsum st ≤ 8) (hca : a + mc ≤ mc' ∧ b + ms ≤ ms') : ZG ω 128 pc ls st0 h a b := by
  intro H locs lsA hR hL
  have hr := z_runV (a := a) (b := b) C ht hj.1 hj.2 hS hM hn hst hsum (by rw [he.2.1]; exact hca.1) (by rw [he.2.2]; exact hca.2) hR hL
  intro T hT X
  rcases hr T hT X with ⟨v', st₀, t9, T', L, h0, X', hLL, e1, e2, hF, go⟩ | ⟨q, st₀, t9, T', L, E', ce, h0, X', hLL, e1, e2, ⟨q2, q3⟩, hce, hcv, hcl, go⟩
  · exact hF.elim
  · rw [← e1] at q3 hce
    have q4 : zRel (kD (oK ω)) (kC (oK ω)) (kρ (oK ω)) (kH (oK ω)) h1 T'.heap (locs ++ L) := by
      obtain ⟨g1, g2, g3⟩ := q3
      refine ⟨g1, ⟨g2.1, g2.2.1, fun z hz => ?_⟩, g3⟩
      rcases List.mem_append.mp hz with hz | hz
      · exact hR.2.1.2.2 z hz
      · exact hLL z hz
    obtain ⟨pre, x, suf, s1, s2, s3, s4, s5⟩ := zct_ok hE.1 hE.2.1
    have hC := id C
    obtain ⟨⟨hx, hb, hml, hown, hnm⟩, hts, ⟨hW, hX, hbl, hs0⟩, -⟩ := hC
    obtain ⟨w1, w2⟩ := zcst hE.1
    subst q2
    have hw := vx_catch (p := oP ω) (l := kL (oK ω)) (e := oE ω) (R := oR ω) (s := oS ω) (m := oM ω) (args := oA ω) (below := oB ω) (meth := oT ω) (c := oC ω) (H := T'.heap) (locs := locs ++ L) (cells := a + mc) (slots := b + ms) (Q := oQ ω) (ls := lsA) (pc := pc) (own := (xY 128).cls) (name := xexN E) (E := xexN E) (ce := ce) (q := q) (rest := st.map (zD (kρ (oK ω)))) hown pre x suf (htab.trans s1)
      (fun z hz => (s2 z hz).imp id (fun w => ⟨w.1, w.2.choose, hts _ (xgw_of w.2.choose_spec.1 rfl), hW.2.2.2.2.1.1 _ w.2.choose_spec.2⟩)) s3 (by rw [s4]; intro q0; have := hE.1; rw [q0] at this; exact absurd this (by decide)) (by rw [s4, ← w2]; exact hts _ (xgw_of (zcw hE.1) rfl)) (by
        have h9 := hW.2.1 _ w1 rfl
        exact va_tabs rfl rfl h9) hce hcv hcl (by rw [s5]; exact z_hand C hE.2.2 he hca q4 hL)
    obtain ⟨t2, a1, b1⟩ := hw T' rfl X'
    exact ⟨t2, go.trans a1, b1⟩
end ZCT
