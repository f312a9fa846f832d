/-! CONTRACTS over heaps of numbers, calls, returns, throws -/
def zrm (i mc ms : Nat) : Room := { frames := zh i + 8, cells := mc, slots := ms, locals := 60 * zh i + 400 }
def zPc (κ : zK) (as : List zV) (h : zH) : Array Value → State → Prop := fun av U => (av = (as.map (zD (kρ κ))).toArray ∧ xWorld (kD κ) (kC κ) (kρ κ) U ∧ zRel (kD κ) (kC κ) (kρ κ) (kH κ) h U.heap []) ∧ va_X (kρ κ).2.1 (kN κ) (kρ κ).2.2 U (kH κ)
def zQc (κ : zK) (v : Option zV) (h : zH) : Array Value → State → Outcome → State → Prop := fun _ _ o t => o = .returned (v.map (zD (kρ κ))) ∧ zRel (kD κ) (kC κ) (kρ κ) (kH κ) h t.heap []
def zXc (κ : zK) (E : Nat) (h : zH) : String → State → State → Prop := fun nm _ t => nm = xexN E ∧ zRel (kD κ) (kC κ) (kρ κ) (kH κ) h t.heap []
def zQ0 : Array Value → State → Outcome → State → Prop := fun _ _ _ _ => False
def zX0 : String → State → State → Prop := fun _ _ _ => False
def zfr (κ : zK) : Addr → Prop := fun q => (kρ κ).1 ≤ q
/-- method i, called over h with as, returns v over h1; at most mc cells, ms slots are new -/
def zRet (κ : zK) (i : Nat) (as : List zV) (h : zH) (v : Option zV) (h1 : zH) (mc ms : Nat) : Prop := vx_Met (kL κ) (xY i) (xws i) (zrm i mc ms) (zPc κ as h) (zQc κ v h1) zX0 mc ms (zfr κ)
/-- it throws class E over h1 -/
def zThr (κ : zK) (i : Nat) (as : List zV) (h : zH) (E : Nat) (h1 : zH) (mc ms : Nat) : Prop := vx_Met (kL κ) (xY i) (xws i) (zrm i mc ms) (zPc κ as h) zQ0 (zXc κ E h1) mc ms (zfr κ)
/-- what a contract is given -/
def zKg (κ : zK) : Prop := (kL κ).stackTraces = false ∧ (kρ κ).2.1 < (kH κ).size
def zargs (as : List zV) (i : Nat) : List (Nat × zV) := match as with
  | [] => []
  | v :: as => (i, v) :: zargs as (i + cond (z2 v) 2 1)
theorem zargs_eq {ρ : xE} : ∀ (as : List zV) (i : Nat), zM ρ (zargs as i) = lv_args i (as.map (zD ρ))
  | [], _ => rfl
  | v :: as, i => by
    have ih := zargs_eq (ρ := ρ) as (i + cond (z2 v) 2 1)
    have e1 : zM ρ (zargs (v :: as) i) = (i, zD ρ v) :: zM ρ (zargs as (i + cond (z2 v) 2 1)) := rfl
    rw [e1, ih]
    show _ = (i, zD ρ v) :: lv_args (if (zD ρ v).category = 2 then i + 2 else i + 1) (as.map (zD ρ))
    congr 2
    cases h : z2 v with
    | true => rw [if_pos (by rw [zcat, h]; rfl)]; rfl
    | false => rw [if_neg (by rw [zcat, h]; decide)]; rfl
theorem zargs_sl {ρ : xE} : ∀ (as : List zV), (lg_sl (as.map (zD ρ))).length = zsum as
  | [] => rfl
  | v :: as => by
    have ih := zargs_sl (ρ := ρ) as
    have e1 : lg_sl ((v :: as).map (zD ρ)) = (if (zD ρ v).category = 2 then [.val (zD ρ v), .second] else [.val (zD ρ v)]) ++ lg_sl (as.map (zD ρ)) := rfl
    have e2 : zsum (v :: as) = (cond (z2 v) 2 1) + zsum as := rfl
    rw [e1, e2, List.length_append, ih]
    cases h : z2 v with
    | true => rw [if_pos (by rw [zcat, h]; rfl)]; rfl
    | false => rw [if_neg (by rw [zcat, h]; decide)]; rfl
theorem zPc_blind {κ : zK} {as : List zV} {h : zH} : FrameBlind (zPc κ as h) := fun _ U g mk q => ⟨⟨q.1.1, xWorld_warm (U := U.calling g mk _) (State.WarmedH.refl U) (fun _ _ => rfl) q.1.2.1, q.1.2.2⟩, q.2.moved (State.WarmedH.refl U).alike⟩
/-- what the end of a walk is: a return -/
def zER (ω : zO) (v : Option zV) (h1 : zH) (mc ms : Nat) : Prop := oQ ω = vx_MQ (oB ω) (zQc (oK ω) v h1) zX0 (oA ω) (oS ω) mc ms (zfr (oK ω)) ∧ (oR ω).cells = mc ∧ (oR ω).slots = ms
/-- or a throw -/
def zET (ω : zO) (E : Nat) (h1 : zH) (mc ms : Nat) : Prop := oQ ω = vx_MQ (oB ω) zQ0 (zXc (oK ω) E h1) (oA ω) (oS ω) mc ms (zfr (oK ω)) ∧ (oR ω).cells = mc ∧ (oR ω).slots = ms
section ZC
variable {ω : zO} {mi pc a b : Nat} {ls : List (Nat × zV)} {st : List zV} {h h1 : zH} {κ : zK}
theorem z_of {i : Nat} {as : List zV} {mc ms : Nat} {Qc : Array Value → State → Outcome → State → Prop} {XC : String → State → State → Prop} (hκ : zKg κ) (hi : i < 131) (hh : xHH i = []) (hsum : zsum as ≤ xML i)
    (body : ∀ ω : zO, zX ω i → oK ω = κ → oQ ω = vx_MQ (oB ω) Qc XC (oA ω) (oS ω) mc ms (zfr (oK ω)) → (oR ω).cells = mc → (oR ω).slots = ms → ZG ω i 0 (zargs as 0) [] h 0 0) : vx_Met (kL κ) (xY i) (xws i) (zrm i mc ms) (zPc κ as h) Qc XC mc ms (zfr κ) := by
  obtain ⟨f1, f2, f3, ⟨f4, f5⟩, f6, f7⟩ := xmf_ok hi
  have hL0 := lv_entry (n := xML i) (as.map (zD (kρ κ))) (by rw [zargs_sl]; exact hsum)
  rw [← zargs_eq] at hL0
  refine vx_ofW (cc := xBy i) (maxL := xML i) (ret := xRt i) f1 (by unfold xws; rw [xcw_nil hh]) fun p e s m args below meth c s₁ BL hml hnt hP => ?_
  obtain ⟨⟨hav, hWd, hRel⟩, hXs⟩ := hP
  subst hav
  have hws := atoms_spec (ws := xws i) BL.pre
  have hts : ∀ w ∈ xgw, w.before (as.map (zD (kρ κ))).toArray s = true := fun w hw => hws w (List.mem_cons_of_mem _ hw)
  have hs0 : ∀ q : Nat, q < (kρ κ).1 → s.heap[q]? = (kH κ)[q]? := fun q hq => hRel.2.1.2.1 q (by have := hRel.2.2; omega) (fun h => by have h : (kρ κ).1 ≤ q := h; omega)
  have C : zX (κ, p, e, (headSpec (xws i) (zrm i mc ms)).room, s, m, (as.map (zD (kρ κ))).toArray, below, meth, c, vx_MQ below Qc XC (as.map (zD (kρ κ))).toArray s mc ms (zfr κ)) i :=
    ⟨⟨BL.exec, BL.bytes, hml, findClass_of_methodNamed BL.named, (name_of_methodNamed BL.named BL.method).1⟩, hts, ⟨hWd, hXs, hκ.2, hs0⟩, (show i < 132 by omega), Nat.le_refl _, Nat.le_refl _, BL.returns, BL.notSynchronized, fun _ => hnt, hκ.1⟩
  have hb := body _ C rfl rfl rfl rfl
  rw [lg_entry_eq]
  exact hb s.heap [] _ hRel hL0
theorem zRet_of {i : Nat} {as : List zV} {v : Option zV} {mc ms : Nat} (hκ : zKg κ) (hi : i < 131) (hh : xHH i = []) (hsum : zsum as ≤ xML i)
    (body : ∀ ω : zO, zX ω i → oK ω = κ → zER ω v h1 mc ms → ZG ω i 0 (zargs as 0) [] h 0 0) : zRet κ i as h v h1 mc ms := z_of hκ hi hh hsum fun ω C e1 e2 e3 e4 => body ω C e1 (by subst e1; exact ⟨e2, e3, e4⟩)
theorem zThr_of {i : Nat} {as : List zV} {E : Nat} {mc ms : Nat} (hκ : zKg κ) (hi : i < 131) (hh : xHH i = []) (hsum : zsum as ≤ xML i)
    (body : ∀ ω : zO, zX ω i → oK ω = κ → zET ω E h1 mc ms → ZG ω i 0 (zargs as 0) [] h 0 0) : zThr κ i as h E h1 mc ms := z_of hκ hi hh hsum fun ω C e1 e2 e3 e4 => body ω C e1 (by subst e1; exact ⟨e2, e3, e4⟩)
theorem zKg_of (C : zX ω mi) : zKg (oK ω) := ⟨C.2.2.2.2.2.2.2.2.2, C.2.2.1.2.2.1⟩
theorem z_pre (C : zX ω mi) {H : Heap} {locs : List Loc} (hR : zRel (kD (oK ω)) (kC (oK ω)) (kρ (oK ω)) (kH (oK ω)) h H locs) (as : List zV) : ∀ U : State, U.heap = H → (oS ω).WarmedH U.vm → zPc (oK ω) as h (as.map (zD (kρ (oK ω)))).toArray U := by
  obtain ⟨-, -, ⟨hW, hX, hbl, hs0⟩, -⟩ := C
  intro U hU hw
  refine ⟨⟨rfl, xWorld_warm hw (fun q hq => ?_) hW, ?_⟩, hX.moved hw.alike⟩
  · rw [hU, hs0 q hq]
    have hB : (kρ (oK ω)).1 = (kH (oK ω)).size := hR.2.2
    exact hR.2.1.2.1 q (by omega) (fun h => by have : (kρ (oK ω)).1 ≤ q := h; omega)
  · rw [hU]
    exact zRel_nil hR
/-- behind a run of a callee -/
theorem z_after {H : Heap} {locs : List Loc} {lsA : Array Slot} {st0 : List Value} {mc ms : Nat} {v : Option zV} {av : Array Value}
    (hr : vx_Run (oP ω) (kL (oK ω)) (oE ω) (oR ω) (oS ω) (oM ω) (oA ω) (oB ω) (oT ω) (oC ω) H locs a b mc ms (F0 (oM ω) pc lsA st0) (st.map (zD (kρ (oK ω)))) (zQc (oK ω) v h1 av) zX0 (zfr (oK ω))) (hR : zRel (kD (oK ω)) (kC (oK ω)) (kρ (oK ω)) (kH (oK ω)) h H locs) (hL : lv_has lsA (xML mi) (zM (kρ (oK ω)) ls))
    (kk : ZG ω mi (pc + 3) ls (v.toList ++ st) h1 (a + mc) (b + ms)) : W (oP ω) (kL (oK ω)) (oE ω) (oR ω) (oS ω) (oM ω) (oA ω) (oB ω) (oT ω) (oC ω) H locs a b (oQ ω) (F0 (oM ω) pc lsA st0) := by
  intro T hT X
  rcases hr T hT X with ⟨v', st₀, t9, T', L, h0, X', hLL, e1, e2, ⟨q2, q3⟩, go⟩ | ⟨q, st₀, t9, T', L, E, ce, h0, X', hLL, e1, e2, hF, hce, hcv, hcl, go⟩
  · have hv : v' = v.map (zD (kρ (oK ω))) := by
      have := q2
      injection this
    have hs : v'.toList ++ st.map (zD (kρ (oK ω))) = (v.toList ++ st).map (zD (kρ (oK ω))) := by
      rw [hv, List.map_append]
      cases v <;> rfl
    rw [← e1] at q3
    have q4 : zRel (kD (oK ω)) (kC (oK ω)) (kρ (oK ω)) (kH (oK ω)) h1 T'.heap (locs ++ L) := by
      obtain ⟨g1, g2, g3⟩ := q3
      refine ⟨g1, ⟨g2.1, g2.2.1, fun z hz => ?_⟩, g3⟩
      rcases List.mem_append.mp hz with hz | hz
      · exact hR.2.1.2.2 z hz
      · exact hLL z hz
    obtain ⟨t2, a1, b1⟩ := kk T'.heap (locs ++ L) lsA q4 hL T' rfl X'
    refine ⟨t2, go t2 ?_, b1⟩
    show Steps (oP ω).tables (oE ω) (oB ω) (T'.setTop (F0 (oM ω) (pc + 3) lsA (v'.toList ++ st.map (zD (kρ (oK ω)))))) t2
    rw [hs]
    exact a1
  · exact hF.elim
/-- behind a run of a callee that throws, in a method without a table: it throws on -/
theorem z_afterX {H : Heap} {locs : List Loc} {lsA : Array Slot} {st0 : List Value} {mc ms mc' ms' E : Nat} {av : Array Value} (C : zX ω mi) (hh : xHH mi = []) (he : zET ω E h1 mc' ms') (hc : a + mc ≤ mc') (hs : b + ms ≤ ms')
    (hr : vx_Run (oP ω) (kL (oK ω)) (oE ω) (oR ω) (oS ω) (oM ω) (oA ω) (oB ω) (oT ω) (oC ω) H locs a b mc ms (F0 (oM ω) pc lsA st0) (st.map (zD (kρ (oK ω)))) (zQ0 av) (zXc (oK ω) E h1) (zfr (oK ω))) (hR : zRel (kD (oK ω)) (kC (oK ω)) (kρ (oK ω)) (kH (oK ω)) h H locs) :
    W (oP ω) (kL (oK ω)) (oE ω) (oR ω) (oS ω) (oM ω) (oA ω) (oB ω) (oT ω) (oC ω) H locs a b (oQ ω) (F0 (oM ω) pc lsA st0) := by
  intro T hT X
  rcases hr T hT X with ⟨v', st₀, t9, T', L, h0, X', hLL, e1, e2, hF, go⟩ | ⟨q, st₀, t9, T', L, E', ce, h0, X', hLL, e1, e2, ⟨q2, q3⟩, hce, hcv, hcl, go⟩
  · exact hF.elim
  · have hnt := C.2.2.2.2.2.2.2.2.1 hh
    have hlocks := C.2.2.2.2.2.2.2.1
    rw [← e1] at q3 hce
    have hw := vx_out (p := oP ω) (l := kL (oK ω)) (e := oE ω) (R := oR ω) (s := oS ω) (m := oM ω) (args := oA ω) (below := oB ω) (meth := oT ω) (c := oC ω) (locs := locs ++ L) (cells := a + mc) (slots := b + ms) (free := zfr (oK ω)) (ls := lsA) (rest := st.map (zD (kρ (oK ω)))) (Qc := zQ0) (XC := zXc (oK ω) E h1) (pc := pc) (E := E') (ce := ce) (q := q) (mc := mc') (ms := ms')
      (fun x hx => (hnt x hx).elim) hlocks hce hcv hcl (fun t ht _ => ⟨q2, by rw [ht]; exact q3⟩) (fun z hz => by
        rcases List.mem_append.mp hz with hz | hz
        · exact hR.2.1.2.2 z hz
        · exact hLL z hz) hc hs
    obtain ⟨t2, a1, b1⟩ := hw T' rfl X'
    refine ⟨t2, go.trans a1, ?_⟩
    rw [he.1]
    exact b1
set_option maxRecDepth 20000 in
theorem zroom0 {z F L x y : Nat} (f4 : z ≤ 40) (hz : x + 1 ≤ y) (h1 : y + 8 ≤ F) (h2 : 60 * y + 400 ≤ L) : x + 8 + 1 ≤ F ∧ 8 + (z + 11) + (60 * x + 400) ≤ L := by constructor <;> omega
theorem zroom {j : Nat} (C : zX ω mi) (hj : j < 131) (hz : zh j + 1 ≤ zh mi) (mc ms : Nat) : (zrm j mc ms).frames + 1 ≤ (oR ω).frames ∧ 8 + (xML j + 11) + (zrm j mc ms).locals ≤ (oR ω).locals := zroom0 (xmf_ok hj).2.2.2.1.1 hz C.2.2.2.2.1 C.2.2.2.2.2.1
section ZCR
variable {j idx iy iz alt mc ms : Nat} {ps : List Nat} {as : List zV} {st0 : List zV} {Qc : Array Value → State → Outcome → State → Prop} {XC : String → State → State → Prop}
theorem z_runS (C : zX ω mi) (ht : zat mi pc = some (.invokestatic idx, (pc, 3, j, iy, iz), alt, ps)) (hj : j < 131) (hz : zh j + 1 ≤ zh mi) (hh : xHH j = []) (hM : vx_Met (kL (oK ω)) (xY j) (xws j) (zrm j mc ms) (zPc (oK ω) as h) Qc XC mc ms (zfr (oK ω))) (hn : as.length = (xmeths j).2.2.1) (hst : st0 = as.reverse ++ st) (hsum : zsum st ≤ 8) (hca : a + mc ≤ (oR ω).cells) (hcb : b + ms ≤ (oR ω).slots)
    {H : Heap} {locs : List Loc} {lsA : Array Slot} (hR : zRel (kD (oK ω)) (kC (oK ω)) (kρ (oK ω)) (kH (oK ω)) h H locs) (hL : lv_has lsA (xML mi) (zM (kρ (oK ω)) ls)) :
    vx_Run (oP ω) (kL (oK ω)) (oE ω) (oR ω) (oS ω) (oM ω) (oA ω) (oB ω) (oT ω) (oC ω) H locs a b mc ms (F0 (oM ω) pc lsA (st0.map (zD (kρ (oK ω))))) (st.map (zD (kρ (oK ω)))) (Qc (as.map (zD (kρ (oK ω)))).toArray) XC (zfr (oK ω)) := by
  subst hst
  have hpre := z_pre C hR as
  have hroom := zroom C hj hz mc ms
  obtain ⟨hd, hw, hE⟩ := zok C ht
  obtain ⟨⟨hx, hb, hml, hown, hnm⟩, hts, ⟨hW, hX, hbl, hs0⟩, -⟩ := C
  obtain ⟨f1, f2, f3, ⟨f4, -⟩, f5, f6⟩ := xmf_ok hj
  have hw : ∀ w ∈ [xwml alt (xY mi).cls idx j, .static (xY j), .initialized (xY j).cls], w ∈ lw_tbl ∧ (goodWord w = true ∨ xnest w = true) := hw
  have hcw := xmw j hj
  have hgood := xws_good hcw
  have hst : (Cond.static (xY j)).before (oA ω) (oS ω) = true := hts _ (xgw_of (hw (.static (xY j)) (by simp)).1 rfl)
  have hin : (Cond.initialized (xY j).cls).before (oA ω) (oS ω) = true := hts _ (xgw_of (hw (.initialized (xY j).cls) (by simp)).1 rfl)
  have h8 := lv_room (m := oM ω) (pc := pc) (ls := lsA) (rest := (as.reverse ++ st).map (zD (kρ (oK ω)))) (st := st.map (zD (kρ (oK ω)))) (by rw [zsum_eq]; exact hsum)
  have hstk : (F0 (oM ω) pc lsA ((as.reverse ++ st).map (zD (kρ (oK ω))))).stack = (as.map (zD (kρ (oK ω)))).reverse ++ st.map (zD (kρ (oK ω))) := by
    show (as.reverse ++ st).map (zD (kρ (oK ω))) = _
    rw [List.map_append, List.map_reverse]
  have S : CallFix (oP ω) (oM ω) (oC ω) (xBy mi) (xML mi) (oS ω) (oA ω) xgw (xY mi).cls := ⟨hx, hb, hml, hown, hts⟩
  by_cases h0 : alt = 0
  · subst h0
    have hl : (Cond.methodLink (xY mi).cls idx (xY j)).before (oA ω) (oS ω) = true := hts _ (xgw_of (hw (.methodLink (xY mi).cls idx (xY j)) (by simp [xwml])).1 rfl)
    exact vx_runS (n := (xmeths j).2.2.1) S hM ⟨callB_of _ hts hgood (by unfold xws; rw [xcw_nil hh]) rfl rfl hin hl ⟨f2.1, f2.2, f3⟩ hroom, hst⟩ ⟨zPc_blind, hpre⟩ rfl (by simpa using hn) hL.1 hstk h8 hd ⟨hca, hcb⟩
  · have hl : va_Nw (.methodLinkNest (xY mi).cls idx (xY j) (xhost alt)) (oS ω) := hW.2.1 _ (hw (.methodLinkNest (xY mi).cls idx (xY j) (xhost alt)) (by simp [xwml, h0])).1 rfl
    exact vx_runSN (n := (xmeths j).2.2.1) S hM ⟨va_cnB _ hts hgood (by unfold xws; rw [xcw_nil hh]) rfl rfl hl hin ⟨f2.1, f2.2, f3⟩ hroom, hst, trivial⟩ ⟨zPc_blind, hpre⟩ rfl (by simpa using hn) hL.1 hstk h8 hd ⟨hca, hcb⟩
theorem z_runV (C : zX ω mi) {ci k n : Nat} (ht : zat mi pc = some (.invokevirtual idx, (pc, 3, j, iy, ci), alt, ps)) (hj : j < 131) (hz : zh j + 1 ≤ zh mi) (hS : zS k = (0, ci, n)) (hM : vx_Met (kL (oK ω)) (xY j) (xws j) (zrm j mc ms) (zPc (oK ω) (zr (some k) :: as) h) Qc XC mc ms (zfr (oK ω))) (hn : as.length = (xmeths j).2.2.1) (hst : st0 = as.reverse ++ zr (some k) :: st) (hsum : zsum st ≤ 8) (hca : a + mc ≤ (oR ω).cells) (hcb : b + ms ≤ (oR ω).slots)
    {H : Heap} {locs : List Loc} {lsA : Array Slot} (hR : zRel (kD (oK ω)) (kC (oK ω)) (kρ (oK ω)) (kH (oK ω)) h H locs) (hL : lv_has lsA (xML mi) (zM (kρ (oK ω)) ls)) :
    vx_Run (oP ω) (kL (oK ω)) (oE ω) (oR ω) (oS ω) (oM ω) (oA ω) (oB ω) (oT ω) (oC ω) H locs a b mc ms (F0 (oM ω) pc lsA (st0.map (zD (kρ (oK ω))))) (st.map (zD (kρ (oK ω)))) (Qc ((zr (some k) :: as).map (zD (kρ (oK ω)))).toArray) XC (zfr (oK ω)) := by
  subst hst
  have hpre := z_pre C hR (zr (some k) :: as)
  have hroom := zroom C hj hz mc ms
  obtain ⟨hd, hw, hE⟩ := zok C ht
  obtain ⟨⟨hx, hb, hml, hown, hnm⟩, hts, ⟨hW, hX, hbl, hs0⟩, -⟩ := C
  obtain ⟨f1, f2, f3, ⟨f4, -⟩, f5, f6⟩ := xmf_ok hj
  have hE3 : (decide (3 = 3) && (decide (j < 131) && (decide (iy = 0) && (decide (ci < 11) && (decide (xcC ci = (xY j).cls) && decide (xHH j = [])))))) = true := hE
  simp only [Bool.and_eq_true, decide_eq_true_eq] at hE3
  obtain ⟨-, -, -, hci, hcls, hh⟩ := hE3
  have hw : ∀ w ∈ [Cond.methodLink (xY mi).cls idx (xY j), .instanceMethod (xY j), .selects (xY j).cls (xY j) (xY j), .initialized (xY j).cls], w ∈ lw_tbl ∧ (goodWord w = true ∨ xnest w = true) := hw
  have hcw := xmw j hj
  have hgood := xws_good hcw
  have hl : (Cond.methodLink (xY mi).cls idx (xY j)).before (oA ω) (oS ω) = true := hts _ (xgw_of (hw _ (by simp)).1 rfl)
  have hi2 : (Cond.instanceMethod (xY j)).before (oA ω) (oS ω) = true := hts _ (xgw_of (hw _ (by simp)).1 rfl)
  have hse : (Cond.selects (xY j).cls (xY j) (xY j)).before (oA ω) (oS ω) = true := hts _ (xgw_of (hw (.selects (xY j).cls (xY j) (xY j)) (by simp)).1 rfl)
  have hin : (Cond.initialized (xY j).cls).before (oA ω) (oS ω) = true := hts _ (xgw_of (hw (.initialized (xY j).cls) (by simp)).1 rfl)
  have h8 := lv_room (m := oM ω) (pc := pc) (ls := lsA) (rest := (as.reverse ++ zr (some k) :: st).map (zD (kρ (oK ω)))) (st := st.map (zD (kρ (oK ω)))) (by rw [zsum_eq]; exact hsum)
  have hstk : (F0 (oM ω) pc lsA ((as.reverse ++ zr (some k) :: st).map (zD (kρ (oK ω))))).stack = (as.map (zD (kρ (oK ω)))).reverse ++ .ref ((kρ (oK ω)).1 + k) :: st.map (zD (kρ (oK ω))) := by
    show (as.reverse ++ zr (some k) :: st).map (zD (kρ (oK ω))) = _
    rw [List.map_append, List.map_reverse]
    rfl
  have S : CallFix (oP ω) (oM ω) (oC ω) (xBy mi) (xML mi) (oS ω) (oA ω) xgw (xY mi).cls := ⟨hx, hb, hml, hown, hts⟩
  have hcl := (xfacts (ρ := kρ (oK ω)) hci).1
  have hrecv := va_recv hW.1 hR.1 hcl (zent (ca := kC (oK ω)) (ρ := kρ (oK ω)) (h := h) hS)
  rw [show (xcC ci, xcT ci, xcN ci).1 = (xY j).cls from hcls] at hrecv
  exact vx_runV (C := (xY j).cls) (n := (xmeths j).2.2.1) S hM ⟨callB_of _ hts hgood (by unfold xws; rw [xcw_nil hh]) rfl rfl hin hl ⟨f2.1, f2.2, f3⟩ hroom, hi2, hse⟩ ⟨zPc_blind, hrecv, hpre⟩ rfl (by simpa using hn) hL.1 hstk h8 hd ⟨hca, hcb⟩
theorem z_calls (C : zX ω mi) (ht : zat mi pc = some (.invokestatic idx, (pc, 3, j, iy, iz), alt, ps)) (hj : j < 131 ∧ zh j + 1 ≤ zh mi ∧ xHH j = []) {v : Option zV} (hM : zRet (oK ω) j as h v h1 mc ms) (hn : as.length = (xmeths j).2.2.1) (hst : st0 = as.reverse ++ st) (hsum : zsum st ≤ 8) (hca : a + mc ≤ (oR ω).cells ∧ b + ms ≤ (oR ω).slots) (kk : ZG ω mi (pc + 3) ls (v.toList ++ st) h1 (a + mc) (b + ms)) : ZG ω mi pc ls st0 h a b :=
  fun _ _ _ hR hL => z_after (z_runS C ht hj.1 hj.2.1 hj.2.2 hM hn hst hsum hca.1 hca.2 hR hL) hR hL kk
theorem z_callv (C : zX ω mi) {ci k n : Nat} (ht : zat mi pc = some (.invokevirtual idx, (pc, 3, j, iy, ci), alt, ps)) (hj : j < 131 ∧ zh j + 1 ≤ zh mi) (hS : zS k = (0, ci, n)) {v : Option zV} (hM : zRet (oK ω) j (zr (some k) :: as) h v h1 mc ms) (hn : as.length = (xmeths j).2.2.1) (hst : st0 = as.reverse ++ zr (some k) :: st) (hsum : zsum st ≤ 8) (hca : a + mc ≤ (oR ω).cells ∧ b + ms ≤ (oR ω).slots) (kk : ZG ω mi (pc + 3) ls (v.toList ++ st) h1 (a + mc) (b + ms)) : ZG ω mi pc ls st0 h a b :=
  fun _ _ _ hR hL => z_after (z_runV C ht hj.1 hj.2 hS hM hn hst hsum hca.1 hca.2 hR hL) hR hL kk
theorem z_callsX (C : zX ω mi) (ht : zat mi pc = some (.invokestatic idx, (pc, 3, j, iy, iz), alt, ps)) (hj : j < 131 ∧ zh j + 1 ≤ zh mi ∧ xHH j = []) (hh : xHH mi = []) {E mc' ms' : Nat} (he : zET ω E h1 mc' ms') (hM : zThr (oK ω) j as h E h1 mc ms) (hn : as.length = (xmeths j).2.2.1) (hst : st0 = as.reverse ++ st) (hsum : zsum st ≤ 8) (hca : a + mc ≤ mc' ∧ b + ms ≤ ms') : ZG ω mi pc ls st0 h a b :=
  fun _ _ _ hR hL => z_afterX C hh he hca.1 hca.2 (z_runS C ht hj.1 hj.2.1 hj.2.2 hM hn hst hsum (by rw [he.2.1]; exact hca.1) (by rw [he.2.2]; exact hca.2) hR hL) hR
theorem z_callvX (C : zX ω mi) {ci k n : Nat} (ht : zat mi pc = some (.invokevirtual idx, (pc, 3, j, iy, ci), alt, ps)) (hj : j < 131 ∧ zh j + 1 ≤ zh mi) (hS : zS k = (0, ci, n)) (hh : xHH mi = []) {E mc' ms' : Nat} (he : zET ω E h1 mc' ms') (hM : zThr (oK ω) j (zr (some k) :: as) h E h1 mc ms) (hn : as.length = (xmeths j).2.2.1) (hst : st0 = as.reverse ++ zr (some k) :: st) (hsum : zsum st ≤ 8) (hca : a + mc ≤ mc' ∧ b + ms ≤ ms') : ZG ω mi pc ls st0 h a b :=
  fun _ _ _ hR hL => z_afterX C hh he hca.1 hca.2 (z_runV C ht hj.1 hj.2 hS hM hn hst hsum (by rw [he.2.1]; exact hca.1) (by rw [he.2.2]; exact hca.2) hR hL) hR
end ZCR
/-! returns -/
section ZRT
variable {ix iy iz alt mc ms : Nat} {ps : List Nat}
theorem z_ireturn (C : zX ω mi) {x : Int32} (ht : zat mi pc = some (.ireturn, (pc, 1, ix, iy, iz), alt, ps)) (he : zER ω (some (zi x)) h mc ms) (ha : a ≤ mc ∧ b ≤ ms) (hrt : xRt mi = some .int) : ZG ω mi pc ls [zi x] h a b := by
  obtain ⟨hd, hw, hE⟩ := zok C ht
  obtain ⟨⟨hx, hb, hml, hown, hnm⟩, hts, -, hi, hRf, hRl, hret, hlocks, -⟩ := C
  intro H locs lsA hR hL
  rw [he.1]
  exact W.widen ha.1 ha.2 (vx_ret (W.iret hx hb (hret.trans hrt) (fun u hu _ => ⟨rfl, by rw [hu]; exact zRel_nil hR⟩) hR.2.1.2.2 hd hlocks))
theorem z_zreturn (C : zX ω mi) {x : Int32} {F : FieldType} (ht : zat mi pc = some (.ireturn, (pc, 1, ix, iy, iz), alt, ps)) (he : zER ω (some (zi x)) h mc ms) (ha : a ≤ mc ∧ b ≤ ms) (hrt : xRt mi = some F) (hn : narrow F (.int x) = .int x) : ZG ω mi pc ls [zi x] h a b := by
  obtain ⟨hd, hw, hE⟩ := zok C ht
  obtain ⟨⟨hx, hb, hml, hown, hnm⟩, hts, -, hi, hRf, hRl, hret, hlocks, -⟩ := C
  intro H locs lsA hR hL
  rw [he.1]
  exact W.widen ha.1 ha.2 (vx_ret (W.zret hx hb (hret.trans hrt) hn (fun u hu _ => ⟨rfl, by rw [hu]; exact zRel_nil hR⟩) hR.2.1.2.2 hd hlocks))
theorem z_lreturn (C : zX ω mi) {x : Int64} (ht : zat mi pc = some (.lreturn, (pc, 1, ix, iy, iz), alt, ps)) (he : zER ω (some (zj x)) h mc ms) (ha : a ≤ mc ∧ b ≤ ms) (hrt : xRt mi = some .long) : ZG ω mi pc ls [zj x] h a b := by
  obtain ⟨hd, hw, hE⟩ := zok C ht
  obtain ⟨⟨hx, hb, hml, hown, hnm⟩, hts, -, hi, hRf, hRl, hret, hlocks, -⟩ := C
  intro H locs lsA hR hL
  rw [he.1]
  exact W.widen ha.1 ha.2 (vx_ret (W.lret hx hb (hret.trans hrt) (fun u hu _ => ⟨rfl, by rw [hu]; exact zRel_nil hR⟩) hR.2.1.2.2 hd hlocks))
theorem z_dreturn (C : zX ω mi) {x : UInt64} (ht : zat mi pc = some (.dreturn, (pc, 1, ix, iy, iz), alt, ps)) (he : zER ω (some (zd x)) h mc ms) (ha : a ≤ mc ∧ b ≤ ms) (hrt : xRt mi = some .double) : ZG ω mi pc ls [zd x] h a b := by
  obtain ⟨hd, hw, hE⟩ := zok C ht
  obtain ⟨⟨hx, hb, hml, hown, hnm⟩, hts, -, hi, hRf, hRl, hret, hlocks, -⟩ := C
  intro H locs lsA hR hL
  rw [he.1]
  exact W.widen ha.1 ha.2 (vx_ret (W.dret hx hb (hret.trans hrt) (fun u hu _ => ⟨rfl, by rw [hu]; exact zRel_nil hR⟩) hR.2.1.2.2 hd hlocks))
theorem z_areturn (C : zX ω mi) {q : Option Nat} {nm : String} (ht : zat mi pc = some (.areturn, (pc, 1, ix, iy, iz), alt, ps)) (he : zER ω (some (zr q)) h mc ms) (ha : a ≤ mc ∧ b ≤ ms) (hrt : xRt mi = some (.object nm)) : ZG ω mi pc ls [zr q] h a b := by
  obtain ⟨hd, hw, hE⟩ := zok C ht
  obtain ⟨⟨hx, hb, hml, hown, hnm⟩, hts, -, hi, hRf, hRl, hret, hlocks, -⟩ := C
  intro H locs lsA hR hL
  rw [he.1]
  have hv : zD (kρ (oK ω)) (zr q) = .null ∨ ∃ k : Nat, zD (kρ (oK ω)) (zr q) = .ref k := by
    cases q with
    | none => exact Or.inl rfl
    | some k => exact Or.inr ⟨_, rfl⟩
  exact W.widen ha.1 ha.2 (vx_ret (W.aret hx hb (hret.trans hrt) (Or.inl ⟨_, rfl⟩) hv (fun u hu _ => ⟨rfl, by rw [hu]; exact zRel_nil hR⟩) hR.2.1.2.2 hd hlocks))
theorem z_return (C : zX ω mi) (ht : zat mi pc = some (.return_, (pc, 1, ix, iy, iz), alt, ps)) (he : zER ω none h mc ms) (ha : a ≤ mc ∧ b ≤ ms) (hrt : xRt mi = none) : ZG ω mi pc ls [] h a b := by
  obtain ⟨hd, hw, hE⟩ := zok C ht
  obtain ⟨⟨hx, hb, hml, hown, hnm⟩, hts, -, hi, hRf, hRl, hret, hlocks, -⟩ := C
  intro H locs lsA hR hL
  rw [he.1]
  exact W.widen ha.1 ha.2 (vx_ret (W.vret hx hb (hret.trans hrt) (fun u hu _ => ⟨rfl, by rw [hu]; exact zRel_nil hR⟩) hR.2.1.2.2 hd hlocks))
end ZRT
end ZC
