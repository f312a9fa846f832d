/-! THE CLAIM OUT OF ONE WALK OF THE LAW'S BODY. Your part is whole_start (and what it stands on); all else here is the same for every law, but numbers. -/
def R_law : String := "PolyglotPierLaw"
def lw_P (b : Addr) (xs : List Int32) (args : Array Value) (s : State) : Prop := args = #[.ref b] ∧ s.IntsAt b xs ∧ xs.length ≤ 260 ∧ (Jvm.Cond.and given_1 narrow_1).before args s = true
/-- what a walk over the start with the record d0 says of its end, said of the start itself -/
theorem lw_closed {s t : State} {o : Outcome} {d0 : Drawn} {L : List Loc} {k n : Nat} (hd0 : s.drawn.sameBut d0 lw_cs) (hv : ∃ v, o = .returned v) (hW : (s.setDrawn d0).WarmedH t.vm) (hs : (s.setDrawn d0).sameButNew ({ t with vm := s.vm } : State) L k n) : State.butDraws s t lw_cs (fun t1 => Framed s o t1 L k n) := by
  have h2 : t.drawn = d0 := congrArg State.drawn hs.1
  refine ⟨⟨hv, hW, State.sameButNew.setDrawn hs s.drawn⟩, ?_, by decide⟩
  rw [h2]
  exact hd0
def lw_Q (_ : Array Value) (s : State) (o : Outcome) (t : State) : Prop := o = .returned (some (.int 1)) ∧ State.butDraws s t lw_cs (fun t1 => Framed s o t1 [] 1200258 5493130)
def lw_Z (below : List Frame) (a : Array Value) (s : State) : State → Prop := fun t => ∃ o, t.status = .running ∧ Ended t below o ∧ lw_Q a s o t
/-- the law's own end, with 1 on the stack, nothing written that was there before, its room as the claim has it; d0: the record of draws at this point (at the entry s.drawn: begin with 'refine W.base ?_' and 'have hd0 := Drawn.sameBut.refl s.drawn lw_cs') -/
theorem lw_ret {p : Program} {l : Launch} {e : Env} {s : State} {m : MethodId} {below : List Frame} {meth : Method} {c : Code} {b : Nat} {d0 : Drawn} (hd0 : s.drawn.sameBut d0 lw_cs) (hx : p.tables.exec = Jvm.exec) (hb : c.code = code) (hr : meth.sig.returnType = ret) (hlocks : meth.locks = false) {pc : Nat} {H : Heap} {ls : Array Slot} (hdg : decode code pc = .ok (.ireturn, 1)) : W p l e room_1 (s.setDrawn d0) m #[Value.ref b] below meth c H [] 1200258 5493130 (lw_Z below #[Value.ref b] s) (F0 m pc ls [.int 1]) := by
  intro T hT X
  obtain ⟨fs, hret, hrun, hended, hW, hframe⟩ := X.leave (v := some (.int 1)) (hlocks := hlocks) (fun h => by rw [hr] at h; cases h)
  have hmeth' : T.vm.method? m = some meth := X.method'
  refine ⟨T.setFrames fs, ?_, .returned (some (.int 1)), hrun, hended, rfl, lw_closed hd0 ⟨_, rfl⟩ hW hframe⟩
  jvm_step X.here [X.here.top, hx, hb, hdg, hmeth', hr, ret, narrow_b1]
  (try refine ⟨rfl, ?_⟩); (try refine ⟨rfl, ?_⟩)
  first | (intro acts; rw [hret _ acts rfl rfl rfl]) | rw [hret _ _ rfl rfl rfl]
  exact Steps.refl _
/-- what holds at the law's entry: the machine, the code, the tables' words (any of lw_tbl by 'hts w (by decide +kernel)'), the script of L ints xs at the cell b, what the Statement gives of the start (any of its parts by flat_of_before) -/
def lw_At (p : Program) (s : State) (m : MethodId) (meth : Method) (c : Code) (b L : Nat) (xs : Nat → Int32) : Prop :=
  p.tables.exec = Jvm.exec ∧ c.code = code ∧ meth.sig.returnType = ret ∧ c.maxLocals = 17 ∧ s.vm.findClass R_law = some m.cls ∧ (∀ w ∈ lw_tbl, w.before #[Value.ref b] s = true) ∧ va_X b L xs s s.heap ∧ b < s.heap.size ∧ meth.locks = false ∧ (meth.name = "law" ∧ ∀ x ∈ c.exceptionTable.toList, False) ∧ (Jvm.Cond.and given_1 narrow_1).before #[Value.ref b] s = true
-- ===== YOUR PART BEGINS =====
theorem xfullb (ρ : xE) (j : Nat) : (Int.negSucc 2147483647 : Int) ≤ (ρ.2.2 j).toInt ∧ (ρ.2.2 j).toInt ≤ Int.ofNat 2147483647 := by
  have h1 := Int32.le_toInt (ρ.2.2 j)
  have h2 := Int32.toInt_lt (ρ.2.2 j)
  have e0 : (Int.negSucc 2147483647) = -2147483648 := rfl
  have e1 : (Int.ofNat 2147483647) = 2147483647 := rfl
  rw [e0, e1]
  constructor <;> omega
theorem xbds_nil {ρ : xE} {k L : Nat} : xbds (k, L, []) ρ := fun j => xfullb ρ j
theorem xlaw_by : xBy 131 = code := rfl
theorem xlaw_rt : xRt 131 = ret := by decide +kernel
theorem xlaw_ml : xML 131 = 17 := by decide +kernel
theorem xlaw_cl : (xY 131).cls = R_law := by decide +kernel
theorem xlaw_nm : (xY 131).name = "law" := by decide +kernel
theorem xlaw_zh : zh 131 + 8 ≤ room_1.frames ∧ 60 * zh 131 + 400 ≤ room_1.locals := by decide +kernel
theorem xlaw_cap : 855 + 492560 + 10 ≤ room_1.cells ∧ 5814 + 6 * (492560 + 10) ≤ room_1.slots := by decide +kernel
theorem xlaw_968 : decode code 968 = .ok (.ireturn, 1) := by decide +kernel
/-- the law's frame as the rows over numbers have it -/
theorem law_zX {p : Program} {l : Launch} {e : Env} {s : State} {m : MethodId} {below : List Frame} {meth : Method} {c : Code} {b L : Nat} {Q : State → Prop} {D : va_G} {ca : Nat → ClassId} {ρ : xE} (hl : l.stackTraces = false) (hx : p.tables.exec = Jvm.exec) (hb : c.code = code) (hr : meth.sig.returnType = ret) (hml : c.maxLocals = 17) (hown : s.vm.findClass R_law = some m.cls) (hgw : ∀ w ∈ xgw, w.before #[Value.ref b] s = true) (hW : xWorld D ca ρ s)
    (hX : va_X ρ.2.1 L ρ.2.2 s s.heap) (hbl : ρ.2.1 < s.heap.size) (hlocks : meth.locks = false) (hnm : meth.name = "law") (hnt : ∀ x ∈ c.exceptionTable.toList, False) : zX ((l, D, ca, ρ, s.heap, L), p, e, room_1, s, m, #[Value.ref b], below, meth, c, Q) 131 := by
  refine ⟨⟨hx, ?_, ?_, ?_, ?_⟩, hgw, ⟨hW, hX, hbl, fun q _ => rfl⟩, by decide, xlaw_zh.1, xlaw_zh.2, ?_, hlocks, fun _ => hnt, hl⟩
  · rw [xlaw_by]
    exact hb
  · rw [xlaw_ml]
    exact hml
  · rw [xlaw_cl]
    exact hown
  · rw [xlaw_nm]
    exact hnm
  · rw [xlaw_rt]
    exact hr
/-- from the entry, for every script of at most 260 ints, the law comes to its end with true -/
theorem whole_start {p : Program} {e : Env} {s : State} {m : MethodId} {below : List Frame} {meth : Method} {c : Code} (l : Launch) (hflags : l.flags = flags0) {b L : Nat} {xs : Nat → Int32} (hL : L ≤ 260) (C0 : lw_At p s m meth c b L xs) : W p l e room_1 s m #[Value.ref b] below meth c s.heap [] 0 0 (lw_Z below #[Value.ref b] s) (entryFrame m ([Value.ref b] : List Value).toArray 17) := by
  obtain ⟨hx, hb, hr, hml, hown, hts, hX, hbl, hlocks, ⟨hnm, hnt⟩, hgv⟩ := id C0
  obtain ⟨D, ca, hWorld⟩ := xworld0 hts hgv
  have hl : l.stackTraces = false := by
    show (!(l.flags.contains noTraceFlag)) = false
    rw [hflags]
    decide +kernel
  obtain ⟨ρ, hρ⟩ : ∃ ρ : xE, ρ = (s.heap.size, b, xs) := ⟨_, rfl⟩
  have e1 : ρ.1 = s.heap.size := by rw [hρ]
  have e2 : ρ.2.1 = b := by rw [hρ]
  have e3 : ρ.2.2 = xs := by rw [hρ]
  have hbl2 : ρ.2.1 < s.heap.size := by rw [e2]; exact hbl
  have hX2 : va_X ρ.2.1 L ρ.2.2 s s.heap := by rw [e2, e3]; exact hX
  have hgw : ∀ w ∈ xgw, w.before #[Value.ref b] s = true := fun w hw => hts w (List.mem_filter.mp hw).1
  have hO : 32 < 32 → ρ.2.2 0 &&& 31 = Int32.ofInt (Int.ofNat 32) := fun q => absurd q (by omega)
  have hC : xCtx p l room_1 s m #[Value.ref b] meth c D ca ρ s.heap 17 code RL "law" 10 xlaw.2 (32, L, []) (xcall xmeths (32, L, []) 100000 10) :=
    ⟨⟨hx, hb, hml, hown, hnm⟩, hgw, ⟨hWorld ρ e1, hX2, hbl2, fun q _ => rfl⟩, ⟨xbds_nil, hO⟩, ⟨by decide, by decide, rfl, rfl⟩, xcon_of hl hbl2 ⟨xbds_nil, hO⟩ 100000 10⟩
  have CX := law_zX (p := p) (e := e) (below := below) (Q := lw_Z below #[Value.ref b] s) hl hx hb hr hml hown hgw (hWorld ρ e1) hX2 hbl2 hlocks hnm hnt
  obtain ⟨t, hck, hrun⟩ := zph_ok L
  obtain ⟨ω, hω⟩ : ∃ ω : zO, ω = ((l, D, ca, ρ, s.heap, L), p, e, room_1, s, m, #[Value.ref b], below, meth, c, lw_Z below #[Value.ref b] s) := ⟨_, rfl⟩
  rw [← hω] at CX
  have kk : ∀ (g : zH) (n a1 b1 : Nat) (d1 : Drawn), (oS ω).drawn.sameBut d1 lw_cs → a1 ≤ 855 + 492560 + 10 → b1 ≤ 5814 + 6 * (492560 + 10) → ZG (zod ω d1) 131 968 [(2, zi (nI n)), (1, zr (some 0)), (0, zs)] [zi 1] g a1 b1 := by
    intro g n a1 b1 d1 hd1 ha1 hb1
    have hd1 : s.drawn.sameBut d1 lw_cs := by rw [hω] at hd1; exact hd1
    rw [hω]
    intro H locs lsA hR hL
    have hloc : ∀ q ∈ locs, ρ.1 ≤ q.base := fun q hq => hR.2.1.2.2 q hq
    rw [e1] at hloc
    exact va_forget (s := s.setDrawn d1) hloc (W.widen (Nat.le_trans ha1 xlaw_cap.1) (Nat.le_trans hb1 xlaw_cap.2) (lw_ret hd1 hx hb hr hlocks (pc := 968) xlaw_968))
  have hN : kN (oK ω) < 2 ^ 31 := by
    rw [hω]
    show L < 2 ^ 31
    omega
  have hcap : 855 + 492560 + 10 ≤ (oR ω).cells ∧ 5814 + 6 * (492560 + 10) ≤ (oR ω).slots := by
    rw [hω]
    exact xlaw_cap
  have hd0 : (oS ω).drawn.sameBut s.drawn lw_cs := by
    rw [hω]
    exact Drawn.sameBut.refl s.drawn lw_cs
  have fin := l_all CX zA_le hN hcap hd0 zLi_0 kk
  have hod : zod ω s.drawn = ω := by
    rw [hω]
    rfl
  rw [hod, hω] at fin
  have hRel : xRel D ca ρ s.heap true 0 (.leaf (9, 0, [])) s.heap [] := ⟨fun k q h => by simp [xW] at h, by omega, fun _ => by rw [e1]; rfl, va_S.rf, e1⟩
  have hl0 := lv_entry ([.ref b]) (n := 17) (Nat.le_of_ble_eq_true rfl)
  rw [lg_entry_eq]
  generalize (lg_sl ([.ref b]) ++ List.replicate (17 - (lg_sl ([.ref b])).length) Slot.unset).toArray = lsA at hl0 ⊢
  have hl1 : lv_has lsA 17 (xM ρ [(0, 10, Int.ofNat 0)]) := by
    have e4 : xM ρ [(0, 10, Int.ofNat 0)] = [(0, .ref ρ.2.1)] := rfl
    rw [e4, e2]
    exact hl0
  have hend : XG p l e room_1 s m #[Value.ref b] below meth c (lw_Z below #[Value.ref b] s) D ca ρ s.heap 17 18 [(4, 2, Int.ofNat 0), (3, 1, Int.ofNat 854), (2, 2, Int.ofNat 0), (1, 1, Int.ofNat 0), (0, 10, Int.ofNat 0)] [] true 855 t 855 5814 := fun H locs lsA hR hL => by
    have h := fin H locs lsA (zRel_0 hck hR)
    rw [xlaw_ml] at h
    have e5 : Int32.ofInt (Int.ofNat 0) = nI 0 := by decide
    have e6 : xM ρ [(4, 2, Int.ofNat 0), (3, 1, Int.ofNat 854), (2, 2, Int.ofNat 0), (1, 1, Int.ofNat 0), (0, 10, Int.ofNat 0)] = zM ρ [(4, zi (nI 0)), (3, zr (some 854)), (2, zi (nI 0)), (1, zr (some 0)), (0, zs)] := by
      show [(4, Value.int (Int32.ofInt (Int.ofNat 0))), (3, Value.ref (ρ.1 + 854)), (2, Value.int (Int32.ofInt (Int.ofNat 0))), (1, Value.ref (ρ.1 + 0)), (0, Value.ref ρ.2.1)] = _
      rw [e5]
      rfl
    rw [e6] at hL
    exact h hL
  exact xto_ok hC (fun q => absurd rfl q) xt131 (stop := 18) (r := (0, zph.2.1, zph.2.2.1, 18, [(4, 2, Int.ofNat 0), (3, 1, Int.ofNat 854), (2, 2, Int.ofNat 0), (1, 1, Int.ofNat 0), (0, 10, Int.ofNat 0)], [], true, 855, t, 855, 5814)) rfl hend 100000 hrun s.heap [] lsA hRel hl1
-- ===== YOUR PART ENDS =====
set_option maxHeartbeats 4000000 in
theorem lw_walk (l : Launch) (hflags : l.flags = flags0) (b : Addr) (xs : List Int32) : MetFree l x (headSpec (Jvm.Cond.code x code maxLocals ret :: tables_1) room_1) (lw_P b xs) (fun _ _ _ _ _ => True) lw_Q := by
  refine MetFree.of_bodyS (code := code) (maxLocals := maxLocals) (ret := ret) (by decide) ?_ ?_
  · intro args s m h hn
    obtain ⟨meth, c, h1, h2, h3, h4, h5, h6, -, -⟩ := Cond.code_spec hn (atoms_spec (ws := Jvm.Cond.code x code maxLocals ret :: tables_1) h _ List.mem_cons_self)
    exact ⟨meth, c, h1, h2, h3, h4, h5, h6⟩
  · intro p e s m args below meth c s₁ B hml0 hP _
    obtain ⟨rfl, hx, hbd, hgv⟩ := hP
    obtain ⟨scr, harrAt, hlist, hof, hsmall⟩ := hx
    obtain ⟨hcb, hkn, -, -⟩ := State.arrayAt?_spec harrAt
    have hown : s.vm.findClass R_law = some m.cls := findClass_of_methodNamed B.named
    have hts0 : ∀ c ∈ (Jvm.Cond.code x code maxLocals ret :: tables_1), c.before #[Value.ref b] s = true := atoms_spec (ws := Jvm.Cond.code x code maxLocals ret :: tables_1) B.pre
    have hts : ∀ w ∈ lw_tbl, w.before #[Value.ref b] s = true := k2_hts_sels lw_privs (fun w hw => hts0 w (List.mem_cons_of_mem _ hw)) lw_privs_ok
    have hml : c.maxLocals = 17 := B.maxLocals_eq (hts0 _ List.mem_cons_self)
    have hnt : ∀ x ∈ c.exceptionTable.toList, False := by
      obtain ⟨meth9, c9, h1, h2, -, -, -, -, h7, -⟩ := Cond.code_spec B.named (hts0 _ List.mem_cons_self)
      cases Option.some.inj (h1.symm.trans B.method)
      cases Option.some.inj (h2.symm.trans (Stand.of_body B).code)
      intro x hx
      rw [Array.isEmpty_iff.mp h7] at hx
      cases hx
    have X₀ : Stand p l e room_1 s m #[Value.ref b] below meth c s₁ [] 0 0 := Stand.of_body B
    have hh0 : s₁.heap = s.heap := by rw [B.state]; rfl
    have hsz : scr.slots.size = xs.length := by rw [← Array.length_toList, hlist, List.length_map]
    have hval : ∀ j : Nat, j < xs.length → scr.slots[j]? = some (.int (xs.getD j 0)) := fun j hj => by
      rw [← Array.getElem?_toList, hlist]
      simp [hj]
    have hbl : b < s.heap.size := (Array.getElem?_eq_some_iff.mp hcb).1
    have hX : va_X b xs.length (fun j => xs.getD j 0) s s.heap := ⟨scr, hcb, hof, hkn, hsz, hval⟩
    have K : W p l e room_1 s m #[Value.ref b] below meth c s₁.heap [] 0 0 (lw_Z below #[Value.ref b] s) (entryFrame m ([Value.ref b] : List Value).toArray 17) := by
      rw [hh0]
      exact whole_start l hflags hbd ⟨B.exec, B.bytes, B.returns, hml, hown, hts, hX, hbl, B.notSynchronized, ⟨(name_of_methodNamed B.named B.method).1, hnt⟩, hgv⟩
    obtain ⟨t, a1, o, b1, b2, b3⟩ := K s₁ rfl X₀
    exact ⟨t, o, a1, b1, b2, b3⟩
theorem lw_pre_spec {args : Array Value} {s : State} (h : (Jvm.Cond.and given_1 narrow_1).before args s = true) (hr : rest_1_c.before args s = true) : ∃ (b : Addr) (xs : List Int32), lw_P b xs args s := by
  have hs := flat_of_before _ h
  have hq := flat_of_before _ hr
  have hc : (Cond.count 1).before args s = true := hs _ (by decide +kernel)
  have harr : (Cond.arrayOf (.arg 0) .int).before args s = true := hs _ (by decide +kernel)
  have hle : (Cond.le (.length (.arg 0)) (.int 260)).before args s = true := hs _ (by decide +kernel)
  have hlen : (Cond.isInt (.length (.arg 0))).before args s = true := hq _ (by decide +kernel)
  have hall : (Cond.all (.arg 0) (.isInt (.elem (.arg 0) (.index 0)))).before args s = true := hq _ (by decide +kernel)
  obtain ⟨b, xs, hb, hx⟩ := State.ints_of_pre rfl harr hlen hall
  have hsm : xs.length < 2 ^ 31 := hx.choose_spec.2.2.2
  have hev : (Term.length (.arg 0)).eval args s none [] s = some (.int xs.length.toInt32) := hx.length_eval hb
  have hv := Cond.le_ints hev (show (Term.int 260).eval args s none [] s = some (.int 260) from rfl)
  have hd : xs.length.toInt32 ≤ 260 := by
    simpa [Cond.before, Cond.holds, hv] using hle
  have hN : xs.length ≤ 260 := (Int32.ofNat_le_ofNat hsm (by decide)).mp (show Int32.ofNat xs.length ≤ Int32.ofNat 260 from hd)
  exact ⟨b, xs, Cond.one_arg hc (show args[0]? = some (.ref b) from hb), hx, hN, h⟩
theorem lw_comes (l : Launch) (hflags : l.flags = flags0) : Comes l x (Jvm.Cond.code x code maxLocals ret :: tables_1) room_1 (fun tb e args s => Calls_1 tb e args s ∧ rest_1 tb e args s ∧ Pre_1 tb e args s)
    (fun _ _ args s o t => lw_Q args s o t) := by
  intro p e ha hc hk s m args below hf hfit hheap happ hpre
  obtain ⟨b, xs, hP⟩ := lw_pre_spec hpre.2.2 hpre.2.1
  obtain ⟨k, o, h1, h2, h3, hQ⟩ := lw_walk l hflags b xs p e ha hc hk s m args below hf ((Spec.applies_iff_loose hf).mp happ).1 hP trivial
  exact ⟨k, o, h1, h2, h3, hQ⟩
theorem lw_frame {s t : State} {o : Outcome} {args : Array Value} (h : State.butDraws s t lw_cs (fun t1 => Framed s o t1 [] 1200258 5493130)) :
    State.butDraws s t [Jvm.Choice.named "NaN.bits"] (fun t1 => Framed s o t1 (fieldLocs frame_1_writes args s ++ arrayLocs frame_1_arrays args s ++ staticLocs frame_1_statics s) 1200258 5493130) := h
theorem lw_limb (L : Cond) (hL : ∀ (args : Array Value) (s t : State), L.after args s (.returned (some (.int 1))) t = true) :
    ArmFor flags0 classFile x code maxLocals ret World_1 tables_1 room_1 Calls_1 rest_1 Pre_1
      (fun tb e a s o t => postC L tb e a s o t ∧ State.butDraws s t [Jvm.Choice.named "NaN.bits"] (fun t1 => Framed s o t1 (fieldLocs frame_1_writes a s ++ arrayLocs frame_1_arrays a s ++ staticLocs frame_1_statics s) 1200258 5493130)) := by
  intro l hflags _ _ p e ha hc hk s m args below hf hfit hheap happ hpre
  obtain ⟨k, o, h1, h2, h3, rfl, hF⟩ := lw_comes l hflags p e ha hc hk s m args below hf hfit hheap happ hpre
  exact ⟨k, _, h1, h2, h3, hL args s _, lw_frame hF⟩
theorem i_vc : Claimed_1_1 ∧ Claimed_1_2 := ⟨lw_limb limb_1_1 (fun args s t => by simp [limb_1_1, Cond.after, Cond.holds, Cond.value]), lw_limb limb_1_2 (fun args s t => Cond.after_iff.mpr (by
  first | (rw [show limb_1_2 = Cond.eq .result (.int 1) from rfl, Cond.eq_ints (x := 1) (y := 1) rfl rfl]; simp; done) | (simp [limb_1_2, Cond.value, Term.eval]; done)))⟩
