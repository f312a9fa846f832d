/-! calls of the law's call: plain, and where it may draw -/
section ZWD
variable {cs : List Choice} {l : Launch} {R : Room} {p : Program} {e : Env} {below : List Frame} {s : State} {sargs : Array Value} {y : MethodName} {len W9 : Nat}
theorem zbackWD {ws : List Cond} {rm : Room} {Pc : Array Value → State → Prop} {Qc : Array Value → State → Outcome → State → Prop} {mc ms : Nat} {free : Addr → Prop} {bytes : ByteArray} {maxL : Nat} {ret : Option FieldType} {hh : List (Nat × Nat × Nat × Nat)}
    (hM : MetD cs l y ws rm Pc Qc mc ms free) (hblind : FrameBlind Pc) (hrc : rm.cells = mc) (hrs : rm.slots = ms) (hframes : rm.frames + 1 ≤ R.frames) (hlocals : W9 + (maxL + 11) + rm.locals ≤ R.locals)
    (hws : ∀ w ∈ ws, ∀ a' U, s.WarmedH U.vm → w.before a' U = true) (hcode : Cond.codeWith y bytes maxL ret hh ∈ ws) (hinit : ∀ a' U, s.WarmedH U.vm → (Cond.initialized y.cls).before a' U = true) :
    BackD cs l R p e below s sargs y len W9 (PreOf R mc ms Pc) (PostOf Qc mc ms free) := by
  intro m meth c A g ig mk a X hg hsize hdg hW hn hp
  have h1 : (headSpec ws rm).pre.before a A.U = true := atoms_intro fun w hw => hws w hw _ _ X.warmed
  have h2 : (Cond.codeWith y bytes maxL ret hh).before a A.U = true := hws _ hcode _ _ X.warmed
  have h3 : (Cond.initialized y.cls).before a A.U = true := hinit _ _ X.warmed
  have h4 : A.cells + (headSpec ws rm).room.cells ≤ R.cells := by rw [show (headSpec ws rm).room.cells = mc from hrc]; exact hp.1
  have h5 : A.slots + (headSpec ws rm).room.slots ≤ R.slots := by rw [show (headSpec ws rm).room.slots = ms from hrs]; exact hp.2.1
  have hPc : Pc a (A.U.calling g mk a) := hblind _ _ _ _ hp.2.2
  obtain ⟨U, Ls, c0, s0⟩ := A
  dsimp only [Pt.U, Pt.locs, Pt.cells, Pt.slots] at h1 h2 h3 h4 h5 X hn hPc ⊢
  obtain ⟨m9, methY, cY, hn9, hmY, hcY, -, hlY, -⟩ := Cond.codeWith_spec h2
  cases Option.some.inj (hn9.symm.trans hn)
  obtain ⟨kY, hkY, -⟩ := className_of_methodNamed hn
  have hinitY : kY.init = .initialized := Cond.initialized_spec (findClass_of_methodNamed hn) hkY h3
  have h : At U g.method c below := by rw [hg]; exact X.here
  have hlocals9 : W9 + (maxL + 11) + (headSpec ws rm).room.locals ≤ R.locals := hlocals
  have happ : (headSpec ws rm).appliesLoose y e.platform (U.calling g mk a) = true :=
    Spec.appliesLoose_calling (g := g) h hdg hn hkY hinitY (X.room_calling (g := g) (R' := (headSpec ws rm).room) hsize hmY hcY hframes (by rw [hlY]; omega) h4 h5) h1
  obtain ⟨mid, hmid⟩ := h.above
  have hfr : (U.setTop g).frames = (.java g :: mid) ++ below := by rw [State.frames_setTop' g h.top, hmid]; rfl
  obtain ⟨o, s₂, hsteps, -, hend, hq⟩ := Steps.callFree hM p X.admits X.cas X.clock (acts := []) hfr happ hPc trivial
  have hq' : ∃ d : Drawn, (U.calling g mk a).drawn.sameBut d cs ∧ Qc a ((U.calling g mk a).setDrawn d) o s₂ ∧ ∃ L, FrameEnd ((U.calling g mk a).setDrawn d) o s₂ L mc ms ∧ ∀ q ∈ L, free q.base := hq
  rw [State.frames_setTop' g h.top] at hend
  obtain ⟨d, hd, hqd, L, hfe, hL⟩ := hq'
  have hcdr : (U.calling g mk a).drawn = s.drawn := by
    rw [State.calling_eq h.top]
    exact X.drawn_eq
  rw [hcdr] at hd
  have h' : At (U.setDrawn d) g.method c below := h.setDrawn d
  have X' : Stand p l e R (s.setDrawn d) m sargs below meth c (U.setDrawn d) Ls c0 s0 := X.drew d
  have hcd : (U.calling g mk a).setDrawn d = (U.setDrawn d).calling g mk a := by
    rw [State.calling_eq h.top, State.calling_eq h'.top]
    rfl
  rw [hcd] at hqd hfe
  obtain ⟨⟨v, rfl⟩, hW₂, e2, q2, q3, q4, q5, q6⟩ := id hfe
  have e3 : s₂ = ({ ((U.setDrawn d).calling g mk a).setFrames s₂.frames with heap := s₂.heap, slotsUsed := s₂.slotsUsed } : State).setVm s₂.vm := by
    have e4 : s₂ = ({ s₂ with vm := ((U.setDrawn d).calling g mk a).vm } : State).setVm s₂.vm := rfl
    rw [e2] at e4
    exact e4
  obtain ⟨c₂, i₂, len₂, hc₂, hd₂, hf₂⟩ := hend
  have hW' : (U.setDrawn d).WarmedH s₂.vm := hW₂
  have hcc : c₂ = c := by
    have h6 : s₂.code? g.method = (U.setDrawn d).code? g.method := by rw [State.code?_eq, State.code?_eq, hW'.alike.method?]
    exact Option.some.inj (hc₂.symm.trans (h6.trans h'.code))
  subst hcc
  have hlen : len₂ = len := by rw [hdg] at hd₂; cases hd₂; rfl
  subst hlen
  obtain ⟨g₀, hg0⟩ := Option.isSome_iff_exists.mp h.top
  obtain ⟨r, hr⟩ := State.topJava?_eq_some.mp hg0
  have hrV : (U.setDrawn d).frames = .java g₀ :: r := hr
  have hs₂ : s₂ = (({ U.setDrawn d with heap := s₂.heap, slotsUsed := s₂.slotsUsed } : State).setVm s₂.vm).setTop { g with pc := g.pc + len₂, stack := v.toList ++ g.stack } := by
    have hr' : (({ U.setDrawn d with heap := s₂.heap, slotsUsed := s₂.slotsUsed } : State).setVm s₂.vm).frames = .java g₀ :: r := hr
    refine e3.trans ?_
    rw [hf₂, State.calling_eq h'.top, State.setFrames_setFrames, State.setTop_of_frames _ hr', hr]
    rfl
  have hsame : (U.setDrawn d).sameButNew ({ U.setDrawn d with heap := s₂.heap, slotsUsed := s₂.slotsUsed } : State) L mc ms := by
    refine ⟨?_, q2, q3, q4, q5, q6⟩
    obtain ⟨t, ht, -⟩ := State.frames_cons hrV
    show ({ U.setDrawn d with heap := s₂.heap, slotsUsed := s₂.slotsUsed } : State) = { (U.setDrawn d).setFrames (U.setDrawn d).frames with heap := s₂.heap, slotsUsed := s₂.slotsUsed }
    rw [State.setFrames_self ht]
  subst hg
  refine ⟨v, ⟨(({ U.setDrawn d with heap := s₂.heap, slotsUsed := s₂.slotsUsed } : State).setVm s₂.vm), Ls ++ L, c0 + mc, s0 + ms⟩, d, hd,
    ⟨X'.admits, X'.cas, X'.clock, X'.frames, X'.room, X'.hears, X'.method, X'.code, (X'.here.setHeapUsed s₂.heap s₂.slotsUsed).setVm hW'.alike, X'.tail, State.WarmedH.trans X'.warmed hW', X'.limits, X'.bytes, X'.same.trans (hsame.setVm (s.setDrawn d).vm)⟩,
    ⟨g, mk, s₂, L, rfl, rfl, hqd, rfl, hL, rfl, rfl⟩, ?_⟩
  show Steps p.tables e below _ ((({ U.setDrawn d with heap := s₂.heap, slotsUsed := s₂.slotsUsed } : State).setVm s₂.vm).setTop { g with pc := g.pc + len₂, stack := v.toList ++ g.stack })
  rw [← hs₂]
  exact hsteps
end ZWD
section ZWR
variable {cs : List Choice} {p : Program} {l : Launch} {e : Env} {R : Room} {s : State} {m : MethodId} {args : Array Value} {below : List Frame} {meth : Method} {c : Code} {T : State} {H : Heap} {locs : List Loc} {cells slots : Nat}
theorem zrunSWD {y : MethodName} {bytes cc : ByteArray} {maxL nL mc ms n index : Nat} {ret : Option FieldType} {hh : List (Nat × Nat × Nat × Nat)} {ws : List Cond} {rm : Room} {Pc : Array Value → State → Prop} {Qc : Array Value → State → Outcome → State → Prop} {free : Addr → Prop} {Ts : List Cond} {own : String} {As rest : List Value} {g : JFrame}
    (S : CallFix p m c cc nL s args Ts own) (hM : MetD cs l y ws rm Pc Qc mc ms free) (cw : vx_CSW R s args own index y bytes maxL ret hh ws rm mc ms n) (hp : PreS s H Pc As)
    (hg : g.method = m) (hn : As.length = n) (hsize : g.locals.size = nL) (hstack : g.stack = As.reverse ++ rest) (hW : 2 * g.monitorRoom + (rest.map fun v => v.category).sum ≤ 8) (hdg : decode cc g.pc = .ok (.invokestatic index, 3)) (hf : cells + mc ≤ R.cells ∧ slots + ms ≤ R.slots) :
    va_RunD cs p l e R s m args below meth c H locs cells slots mc ms g rest (Qc As.toArray) free := by
  obtain ⟨⟨hrc, hrs, hfr, hlo, hws, hcw⟩, hcode, hini, hy, hlen, hl, hstt⟩ := cw
  have hK : BackD cs l R p e below s args y 3 8 (PreOf R mc ms Pc) (PostOf Qc mc ms free) := zbackWD (hh := hh) (bytes := bytes) (maxL := maxL) (ret := ret) hM hp.1 hrc hrs hfr hlo hws hcw (fun a' U hW => word_at hW (Or.inl (by first | rfl | simp [Cond.onTables, Cond.keeps, Cond.steady])) hini)
  obtain ⟨hx, hb, hml, ho, -⟩ := S
  intro T hT X
  obtain ⟨mk, methM, cM, hnamed, hmethM, -, -, -, -, -, -, hsigM⟩ := Cond.codeWith_spec hcode
  have hstatic : methM.isStatic = true := Cond.static_spec hnamed hmethM hstt
  obtain ⟨kP, hkP, -⟩ := className_of_methodNamed hnamed
  have hinitP : kP.init = .initialized := Cond.initialized_spec (findClass_of_methodNamed hnamed) hkP hini
  obtain ⟨vm₁, X₁, hstep₁⟩ := X.invokestatic hx ho hl hnamed hmethM hstatic hkP hinitP hy (g := g) hg (argsL := As) (rest := rest) (by rw [hn]; exact hlen _ hsigM) hstack (by rw [hb]; exact hdg)
  obtain ⟨v, ⟨U', l2, c2, s2⟩, d', hd', X', ⟨g', mk', t, L, e1, e2, hq, h1, hL, h2, h3⟩, hsteps⟩ := hK m meth c ⟨T.setVm vm₁, locs, cells, slots⟩ { g with stack := rest } (.invokestatic index) mk As.toArray X₁ hg (hsize.trans hml.symm) (by rw [hb]; exact hdg) hW (X₁.named hnamed) ⟨hf.1, hf.2, hp.2 (T.setVm vm₁) hT X₁.warmed⟩
  dsimp only [Pt.U, Pt.locs, Pt.cells, Pt.slots] at X' e1 e2 h1 h2 h3 hsteps
  subst h1; subst h2; subst h3
  exact ⟨v, ((T.setVm vm₁).setDrawn d').calling g' mk' As.toArray, t, U', L, d', hd', hT, X', hL, e1, e2, hq, fun target h => hstep₁ _ fun acts => by rw [doInvoke_state]; exact hsteps.trans h⟩
end ZWR
section ZWZ
variable {ω : zO} {mi pc a b : Nat} {ls : List (Nat × zV)} {st : List zV} {h h1 : zH} {Q : Option zV → zH → Prop} {d0 : Drawn}
variable {j idx iy iz mc ms : Nat} {ps : List Nat} {as : List zV} {st0 : List zV} {Qc : Array Value → State → Outcome → State → Prop} {XC : String → State → State → Prop}
theorem zcsw (C : zX ω mi) (hj : j < 131) (hz : zh j + 1 ≤ zh mi) (hh : xHH j ≠ []) (ht : zat mi pc = some (.invokestatic idx, (pc, 3, j, iy, iz), 0, ps)) : CallFix (oP ω) (oM ω) (oC ω) (xBy mi) (xML mi) (oS ω) (oA ω) xgw (xY mi).cls ∧ vx_CSW (oR ω) (oS ω) (oA ω) (xY mi).cls idx (xY j) (xBy j) (xML j) (xRt j) (xHH j) (xws j) (zrm j mc ms) mc ms (xmeths j).2.2.1 ∧ decode (xBy mi) pc = .ok (.invokestatic idx, 3) := by
  have hroom := zroom C hj hz mc ms
  obtain ⟨hd, hw, hE⟩ := zok C ht
  obtain ⟨⟨hx, hb, hml, hown, hnm⟩, hts, -⟩ := C
  obtain ⟨f1, f2, f3, ⟨f4, -⟩, f5, f6⟩ := xmf_ok hj
  have hw : ∀ w ∈ [xwml 0 (xY mi).cls idx j, .static (xY j), .initialized (xY j).cls], w ∈ lw_tbl ∧ (goodWord w = true ∨ xnest w = true) := hw
  have hcw := xmw j hj
  have hgood := xws_good hcw
  have hst : (Cond.static (xY j)).before (oA ω) (oS ω) = true := hts _ (xgw_of (hw (.static (xY j)) (by simp)).1 rfl)
  have hin : (Cond.initialized (xY j).cls).before (oA ω) (oS ω) = true := hts _ (xgw_of (hw (.initialized (xY j).cls) (by simp)).1 rfl)
  have hl : (Cond.methodLink (xY mi).cls idx (xY j)).before (oA ω) (oS ω) = true := hts _ (xgw_of (hw (.methodLink (xY mi).cls idx (xY j)) (by simp [xwml])).1 rfl)
  have hpn : ∀ sig, parseMethodDescriptor (xY j).desc = some sig → (xmeths j).2.2.1 = sig.parameters.length := fun sig h => by
    rw [h] at f3
    exact (Option.some.inj f3).symm
  have hc1 : Cond.codeWith (xY j) (xBy j) (xML j) (xRt j) (xHH j) ∈ xws j := by
    rw [← xcw_cons hh]
    exact List.mem_cons_self
  have hc2 : (Cond.codeWith (xY j) (xBy j) (xML j) (xRt j) (xHH j)).before (oA ω) (oS ω) = true := by
    rw [← xcw_cons hh]
    exact hts _ hcw
  exact ⟨⟨hx, hb, hml, hown, hts⟩, ⟨⟨rfl, rfl, hroom.1, hroom.2, pay_in hts hgood, hc1⟩, hc2, hin, f2, hpn, hl, hst⟩, hd⟩
theorem z_runSH (C : zX ω mi) (ht : zat mi pc = some (.invokestatic idx, (pc, 3, j, iy, iz), 0, ps)) (hj : j < 131) (hz : zh j + 1 ≤ zh mi) (hh : xHH j ≠ []) (hM : vx_Met (kL (oK ω)) (xY j) (xws j) (zrm j mc ms) (zPc (oK ω) as h) Qc XC mc ms (zfr (oK ω))) (hn : as.length = (xmeths j).2.2.1) (hst : st0 = as.reverse ++ st) (hsum : zsum st ≤ 8) (hca : a + mc ≤ (oR ω).cells) (hcb : b + ms ≤ (oR ω).slots)
    {H : Heap} {locs : List Loc} {lsA : Array Slot} (hR : zRel (kD (oK ω)) (kC (oK ω)) (kρ (oK ω)) (kH (oK ω)) h H locs) (hL : lv_has lsA (xML mi) (zM (kρ (oK ω)) ls)) :
    vx_Run (oP ω) (kL (oK ω)) (oE ω) (oR ω) (oS ω) (oM ω) (oA ω) (oB ω) (oT ω) (oC ω) H locs a b mc ms (F0 (oM ω) pc lsA (st0.map (zD (kρ (oK ω))))) (st.map (zD (kρ (oK ω)))) (Qc (as.map (zD (kρ (oK ω)))).toArray) XC (zfr (oK ω)) := by
  subst hst
  obtain ⟨S, cw, hd⟩ := zcsw (mc := mc) (ms := ms) C hj hz hh ht
  have h8 := lv_room (m := oM ω) (pc := pc) (ls := lsA) (rest := (as.reverse ++ st).map (zD (kρ (oK ω)))) (st := st.map (zD (kρ (oK ω)))) (by rw [zsum_eq]; exact hsum)
  have hstk : (F0 (oM ω) pc lsA ((as.reverse ++ st).map (zD (kρ (oK ω))))).stack = (as.map (zD (kρ (oK ω)))).reverse ++ st.map (zD (kρ (oK ω))) := by
    show (as.reverse ++ st).map (zD (kρ (oK ω))) = _
    rw [List.map_append, List.map_reverse]
  exact vx_runSX S hM cw ⟨zPc_blind, z_pre C hR as⟩ rfl (by simpa using hn) hL.1 hstk h8 hd ⟨hca, hcb⟩
theorem z_callsH (C : zX ω mi) (ht : zat mi pc = some (.invokestatic idx, (pc, 3, j, iy, iz), 0, ps)) (hj : j < 131 ∧ zh j + 1 ≤ zh mi ∧ xHH j ≠ []) {v : Option zV} (hM : zRet (oK ω) j as h v h1 mc ms) (hn : as.length = (xmeths j).2.2.1) (hst : st0 = as.reverse ++ st) (hsum : zsum st ≤ 8) (hca : a + mc ≤ (oR ω).cells ∧ b + ms ≤ (oR ω).slots) (kk : ZG ω mi (pc + 3) ls (v.toList ++ st) h1 (a + mc) (b + ms)) : ZG ω mi pc ls st0 h a b :=
  fun _ _ _ hR hL => z_after (z_runSH C ht hj.1 hj.2.1 hj.2.2 hM hn hst hsum hca.1 hca.2 hR hL) hR hL kk
theorem z_callsqH (C : zX ω mi) (ht : zat mi pc = some (.invokestatic idx, (pc, 3, j, iy, iz), 0, ps)) (hj : j < 131 ∧ zh j + 1 ≤ zh mi ∧ xHH j ≠ []) (hM : zRq (oK ω) j as h Q mc ms) (hn : as.length = (xmeths j).2.2.1) (hst : st0 = as.reverse ++ st) (hsum : zsum st ≤ 8) (hca : a + mc ≤ (oR ω).cells ∧ b + ms ≤ (oR ω).slots) (kk : ∀ v h1, Q v h1 → ZG ω mi (pc + 3) ls (v.toList ++ st) h1 (a + mc) (b + ms)) : ZG ω mi pc ls st0 h a b :=
  fun _ _ _ hR hL => z_afterq (z_runSH C ht hj.1 hj.2.1 hj.2.2 hM hn hst hsum hca.1 hca.2 hR hL) hR hL kk
theorem z_callsDH (C : zX ω mi) (hd0 : (oS ω).drawn.sameBut d0 lw_cs) (ht : zat mi pc = some (.invokestatic idx, (pc, 3, j, iy, iz), 0, ps)) (hj : j < 131 ∧ zh j + 1 ≤ zh mi ∧ xHH j ≠ []) (hM : zRD (oK ω) j as h Q mc ms) (hn : as.length = (xmeths j).2.2.1) (hst : st0 = as.reverse ++ st) (hsum : zsum st ≤ 8) (hca : a + mc ≤ (oR ω).cells ∧ b + ms ≤ (oR ω).slots)
    (kk : ∀ v h1 d1, Q v h1 → (oS ω).drawn.sameBut d1 lw_cs → ZG (zod ω d1) mi (pc + 3) ls (v.toList ++ st) h1 (a + mc) (b + ms)) : ZG (zod ω d0) mi pc ls st0 h a b := by
  subst hst
  intro H locs lsA hR hL
  have C0 := zX_od C d0
  obtain ⟨S, cw, hd⟩ := zcsw (mc := mc) (ms := ms) C0 hj.1 hj.2.1 hj.2.2 ht
  have h8 := lv_room (m := oM ω) (pc := pc) (ls := lsA) (rest := (as.reverse ++ st).map (zD (kρ (oK ω)))) (st := st.map (zD (kρ (oK ω)))) (by rw [zsum_eq]; exact hsum)
  have hstk : (F0 (oM ω) pc lsA ((as.reverse ++ st).map (zD (kρ (oK ω))))).stack = (as.map (zD (kρ (oK ω)))).reverse ++ st.map (zD (kρ (oK ω))) := by
    show (as.reverse ++ st).map (zD (kρ (oK ω))) = _
    rw [List.map_append, List.map_reverse]
  exact z_afterD (ω := ω) hd0 (zrunSWD S hM cw ⟨zPc_blind, z_pre C0 hR as⟩ rfl (by simpa using hn) hL.1 hstk h8 hd ⟨hca.1, hca.2⟩) hR hL kk
end ZWZ
