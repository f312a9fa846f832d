/-! ===== BEGIN a constructor that throws (launches without stack traces) ===== -/
section VXIA
variable {p : Program} {l : Launch} {e : Env} {R : Room} {s : State} {m : MethodId} {args : Array Value} {below : List Frame} {meth : Method} {c : Code} {T : State} {locs : List Loc} {cells slots : Nat}
theorem vx_callI (X : Stand p l e R s m args below meth c T locs cells slots) (hexec : p.tables.exec = Jvm.exec) {own : String} {index : Nat} {y : MethodName} {bytes : ByteArray} {maxL : Nat}
    (hown : s.vm.findClass own = some m.cls) (hy1 : y.name = "<init>") (hlink : (Cond.methodLink own index y).before args s = true) (hinst : (Cond.instanceMethod y).before args s = true)
    (hcode : (Cond.code y bytes maxL none).before args s = true) (hy : y.cls ≠ "java/lang/invoke/MethodHandle" ∧ y.cls ≠ "java/lang/invoke/VarHandle")
    {W9 : Nat} {Pre : Pt → Array Value → Prop} {Post : Pt → Array Value → Option Value → Pt → Prop} {PostX : Pt → Array Value → Addr → Pt → Prop} (hK : vx_Back l R p e below s args y 3 W9 Pre Post PostX)
    {g : JFrame} (hg : g.method = m) (hsize : g.locals.size = c.maxLocals) {a : Addr} {argsL rest : List Value} (hlen : ∀ sig, parseMethodDescriptor y.desc = some sig → argsL.length = sig.parameters.length)
    (hstack : g.stack = argsL.reverse ++ .ref a :: rest) (hW : 2 * g.monitorRoom + (rest.map fun v => v.category).sum ≤ W9) (hdg : decode c.code g.pc = .ok (.invokespecial index, 3))
    (hpre : ∀ vm₁, s.WarmedH vm₁ → Pre ⟨T.setVm vm₁, locs, cells, slots⟩ (Value.ref a :: argsL).toArray) :
    (∃ (v : Option Value) (vm₁ : Vm) (B : Pt), s.WarmedH vm₁ ∧ Stand p l e R s m args below meth c B.U B.locs B.cells B.slots ∧ Post ⟨T.setVm vm₁, locs, cells, slots⟩ (Value.ref a :: argsL).toArray v B ∧
      ∀ target, Steps p.tables e below (B.U.setTop { g with pc := g.pc + 3, stack := v.toList ++ rest }) target → Steps p.tables e below (T.setTop g) target) ∨
    (∃ (q : Addr) (vm₁ : Vm) (B : Pt), s.WarmedH vm₁ ∧ Stand p l e R s m args below meth c B.U B.locs B.cells B.slots ∧ PostX ⟨T.setVm vm₁, locs, cells, slots⟩ (Value.ref a :: argsL).toArray q B ∧
      Steps p.tables e below (T.setTop g) ((B.U.setTop { g with stack := rest }).pushFrame (.throwing q))) := by
  subst hg
  have hpl : e.platform.magicAccessors = ({} : Platform).magicAccessors := by rw [X.admits.platform]
  obtain ⟨mk, methM, cM, kP, vm₁, hnamed, hmethM, hcodeM, -, hlocalsM, -, hkP, -, hW₁, hstep₁⟩ := Steps.initColdArgs (e := e) X.here hexec X.warmed hpl hown hy1 hy hlink hinst hcode (f := g) rfl hlen hstack hdg
  have X₁ := X.noted hW₁
  rcases hK g.method meth c ⟨T.setVm vm₁, locs, cells, slots⟩ { g with stack := rest } (.invokespecial index) mk (Value.ref a :: argsL).toArray X₁ rfl hsize hdg hW (X₁.named hnamed) (hpre vm₁ X₁.warmed) with ⟨v, B, X', hpost, hsteps⟩ | ⟨q, B, X', hpost, hsteps⟩
  · exact Or.inl ⟨v, vm₁, B, X₁.warmed, X', hpost, fun target h => hstep₁ _ fun acts => by rw [doInvoke_state]; exact hsteps.trans h⟩
  · exact Or.inr ⟨q, vm₁, B, X₁.warmed, X', hpost, hstep₁ _ fun acts => by rw [doInvoke_state]; exact hsteps⟩
end VXIA
section VXIB
variable {p : Program} {l : Launch} {e : Env} {R : Room} {s : State} {m : MethodId} {args : Array Value} {below : List Frame} {meth : Method} {c : Code} {H : Heap} {locs : List Loc} {cells slots : Nat}
variable {y : MethodName} {bytes cc : ByteArray} {maxL nL mc ms n index : Nat} {ret : Option FieldType} {ws : List Cond} {rm : Room} {Pc : Array Value → State → Prop} {Qc : Array Value → State → Outcome → State → Prop} {XC : String → State → State → Prop} {free : Addr → Prop} {Ts : List Cond} {own C : String} {b : Addr} {As rest : List Value} {g : JFrame}
theorem vx_runI (S : CallFix p m c cc nL s args Ts own) (hM : vx_Met l y ws rm Pc Qc XC mc ms free) (cw : CallB R s args own index y bytes maxL none ws rm mc ms n ∧ y.name = "<init>" ∧ (Cond.instanceMethod y).before args s = true) (hp : PreS s H Pc (.ref b :: As))
    (hg : g.method = m) (hn : As.length = n) (hsize : g.locals.size = nL) (hstack : g.stack = As.reverse ++ .ref b :: rest) (hW : 2 * g.monitorRoom + (rest.map fun v => v.category).sum ≤ 8) (hdg : decode cc g.pc = .ok (.invokespecial index, 3)) (hf : cells + mc ≤ R.cells ∧ slots + ms ≤ R.slots) :
    vx_Run p l e R s m args below meth c H locs cells slots mc ms g rest (Qc (Value.ref b :: As).toArray) XC free := by
  have hK : vx_Back l R p e below s args y 3 8 (PreOf R mc ms Pc) (PostOf Qc mc ms free) (vx_Post XC mc ms free) := vx_callBack cw.1 hM hp.1
  obtain ⟨⟨-, -, -, -, -, -, hcode, -, hy, hlen, hl⟩, hy1, hin⟩ := cw
  obtain ⟨hx, hb, hml, ho, -⟩ := S
  have hPc := hp.2
  intro T hT X
  rcases vx_callI X hx (bytes := bytes) (maxL := maxL) ho hy1 hl hin hcode hy hK hg (hsize.trans hml.symm) (a := b) (argsL := As) (rest := rest) (fun sig h => hn.trans (hlen sig h)) hstack hW (by rw [hb]; exact hdg)
    (fun vm₁ hW₁ => ⟨hf.1, hf.2, hPc (T.setVm vm₁) hT hW₁⟩) with ⟨v, vm₁, ⟨U', l2, c2, s2⟩, hW₁, X', ⟨g', mk, t, L, e1, e2, hq, h1, hL, h2, h3⟩, st⟩ | ⟨q, vm₁, ⟨U', l2, c2, s2⟩, hW₁, X', ⟨g', mk, t, L, E, ce, e1, e2, hq, hce, hcv, hcl, h1, hL, h2, h3⟩, st⟩
  · dsimp only [Pt.U, Pt.locs, Pt.cells, Pt.slots] at X' e1 e2 h1 h2 h3 st
    subst h1; subst h2; subst h3
    exact Or.inl ⟨v, (T.setVm vm₁).calling g' mk (Value.ref b :: As).toArray, t, U', L, hT, X', hL, e1, e2, hq, st⟩
  · dsimp only [Pt.U, Pt.locs, Pt.cells, Pt.slots] at X' e1 e2 h1 h2 h3 st hcl
    subst h1; subst h2; subst h3
    exact Or.inr ⟨q, (T.setVm vm₁).calling g' mk (Value.ref b :: As).toArray, t, U', L, E, ce, hT, X', hL, e1, e2, hq, hce, hcv, vx_cls hW₁ hcl, st⟩
end VXIB
/-! ===== END ===== -/
/-! ===== BEGIN a private constructor of a nest mate that throws ===== -/
section VXIC
variable {p : Program} {l : Launch} {e : Env} {R : Room} {s : State} {m : MethodId} {args : Array Value} {below : List Frame} {meth : Method} {c : Code} {T : State} {locs : List Loc} {cells slots : Nat}
theorem vx_callIN (X : Stand p l e R s m args below meth c T locs cells slots) (hexec : p.tables.exec = Jvm.exec) {own : String} {index : Nat} {host : String} {y : MethodName} {bytes : ByteArray} {maxL : Nat}
    (hown : s.vm.findClass own = some m.cls) (hy1 : y.name = "<init>") (hlink : (Cond.methodLinkNest own index y host).before args s = true) (hinst : (Cond.instanceMethod y).before args s = true)
    (hcode : (Cond.code y bytes maxL none).before args s = true) (hy : y.cls ≠ "java/lang/invoke/MethodHandle" ∧ y.cls ≠ "java/lang/invoke/VarHandle")
    {W9 : Nat} {Pre : Pt → Array Value → Prop} {Post : Pt → Array Value → Option Value → Pt → Prop} {PostX : Pt → Array Value → Addr → Pt → Prop} (hK : vx_Back l R p e below s args y 3 W9 Pre Post PostX)
    {g : JFrame} (hg : g.method = m) (hsize : g.locals.size = c.maxLocals) {a : Addr} {argsL rest : List Value} (hlen : ∀ sig, parseMethodDescriptor y.desc = some sig → argsL.length = sig.parameters.length)
    (hstack : g.stack = argsL.reverse ++ .ref a :: rest) (hW : 2 * g.monitorRoom + (rest.map fun v => v.category).sum ≤ W9) (hdg : decode c.code g.pc = .ok (.invokespecial index, 3))
    (hpre : ∀ vm₁, s.WarmedH vm₁ → Pre ⟨T.setVm vm₁, locs, cells, slots⟩ (Value.ref a :: argsL).toArray) :
    (∃ (v : Option Value) (vm₁ : Vm) (B : Pt), s.WarmedH vm₁ ∧ Stand p l e R s m args below meth c B.U B.locs B.cells B.slots ∧ Post ⟨T.setVm vm₁, locs, cells, slots⟩ (Value.ref a :: argsL).toArray v B ∧
      ∀ target, Steps p.tables e below (B.U.setTop { g with pc := g.pc + 3, stack := v.toList ++ rest }) target → Steps p.tables e below (T.setTop g) target) ∨
    (∃ (q : Addr) (vm₁ : Vm) (B : Pt), s.WarmedH vm₁ ∧ Stand p l e R s m args below meth c B.U B.locs B.cells B.slots ∧ PostX ⟨T.setVm vm₁, locs, cells, slots⟩ (Value.ref a :: argsL).toArray q B ∧
      Steps p.tables e below (T.setTop g) ((B.U.setTop { g with stack := rest }).pushFrame (.throwing q))) := by
  subst hg
  have hpl : e.platform.magicAccessors = ({} : Platform).magicAccessors := by rw [X.admits.platform]
  obtain ⟨mk, methM, cM, kP, vm₁, hnamed, hmethM, hcodeM, -, hlocalsM, -, hkP, -, hW₁, hstep₁⟩ := Steps.initColdArgsNest (e := e) X.here hexec X.warmed hpl hown hy1 hy hlink hinst hcode (f := g) rfl hlen hstack hdg
  have X₁ := X.noted hW₁
  rcases hK g.method meth c ⟨T.setVm vm₁, locs, cells, slots⟩ { g with stack := rest } (.invokespecial index) mk (Value.ref a :: argsL).toArray X₁ rfl hsize hdg hW (X₁.named hnamed) (hpre vm₁ X₁.warmed) with ⟨v, B, X', hpost, hsteps⟩ | ⟨q, B, X', hpost, hsteps⟩
  · exact Or.inl ⟨v, vm₁, B, X₁.warmed, X', hpost, fun target h => hstep₁ _ fun acts => by rw [doInvoke_state]; exact hsteps.trans h⟩
  · exact Or.inr ⟨q, vm₁, B, X₁.warmed, X', hpost, hstep₁ _ fun acts => by rw [doInvoke_state]; exact hsteps⟩
end VXIC
section VXID
variable {p : Program} {l : Launch} {e : Env} {R : Room} {s : State} {m : MethodId} {args : Array Value} {below : List Frame} {meth : Method} {c : Code} {H : Heap} {locs : List Loc} {cells slots : Nat}
theorem vx_runIN {y : MethodName} {bytes cc : ByteArray} {maxL nL mc ms n index : Nat} {ws : List Cond} {rm : Room} {Pc : Array Value → State → Prop} {Qc : Array Value → State → Outcome → State → Prop} {XC : String → State → State → Prop} {free : Addr → Prop} {Ts : List Cond} {own host : String} {b : Addr} {As rest : List Value} {g : JFrame}
    (S : CallFix p m c cc nL s args Ts own) (hM : vx_Met l y ws rm Pc Qc XC mc ms free) (cw : va_CN R s args own index y host bytes maxL none ws rm mc ms n ∧ y.name = "<init>" ∧ (Cond.instanceMethod y).before args s = true) (hp : PreS s H Pc (.ref b :: As))
    (hg : g.method = m) (hn : As.length = n) (hsize : g.locals.size = nL) (hstack : g.stack = As.reverse ++ .ref b :: rest) (hW : 2 * g.monitorRoom + (rest.map fun v => v.category).sum ≤ 8) (hdg : decode cc g.pc = .ok (.invokespecial index, 3)) (hf : cells + mc ≤ R.cells ∧ slots + ms ≤ R.slots) :
    vx_Run p l e R s m args below meth c H locs cells slots mc ms g rest (Qc (Value.ref b :: As).toArray) XC free := by
  obtain ⟨⟨⟨hrc, hrs, hfr, hlo, hws, hcw⟩, hcode, hini, hy, hlen, hl⟩, hx1, hx2⟩ := cw
  have hK : vx_Back l R p e below s args y 3 8 (PreOf R mc ms Pc) (PostOf Qc mc ms free) (vx_Post XC mc ms free) := vx_back (bytes := bytes) (maxL := maxL) (ret := none) hM hp.1 hrc hrs hfr hlo hws hcw (fun a' U hW => word_at hW (Or.inl (by first | rfl | simp [Cond.onTables, Cond.keeps, Cond.steady])) hini)
  obtain ⟨hx, hb, hml, ho, -⟩ := S
  have hPc := hp.2
  intro T hT X
  rcases vx_callIN X hx (bytes := bytes) (maxL := maxL) ho hx1 hl hx2 hcode hy hK hg (hsize.trans hml.symm) (a := b) (argsL := As) (rest := rest) (fun sig h => hn.trans (hlen sig h)) hstack hW (by rw [hb]; exact hdg)
    (fun vm₁ hW₁ => ⟨hf.1, hf.2, hPc (T.setVm vm₁) hT hW₁⟩) with ⟨v, vm₁, ⟨U', l2, c2, s2⟩, hW₁, X', ⟨g', mk, t, L, e1, e2, hq, h1, hL, h2, h3⟩, st⟩ | ⟨q, vm₁, ⟨U', l2, c2, s2⟩, hW₁, X', ⟨g', mk, t, L, E, ce, e1, e2, hq, hce, hcv, hcl, h1, hL, h2, h3⟩, st⟩
  · dsimp only [Pt.U, Pt.locs, Pt.cells, Pt.slots] at X' e1 e2 h1 h2 h3 st
    subst h1; subst h2; subst h3
    exact Or.inl ⟨v, (T.setVm vm₁).calling g' mk (Value.ref b :: As).toArray, t, U', L, hT, X', hL, e1, e2, hq, st⟩
  · dsimp only [Pt.U, Pt.locs, Pt.cells, Pt.slots] at X' e1 e2 h1 h2 h3 st hcl
    subst h1; subst h2; subst h3
    exact Or.inr ⟨q, (T.setVm vm₁).calling g' mk (Value.ref b :: As).toArray, t, U', L, E, ce, hT, X', hL, e1, e2, hq, hce, hcv, vx_cls hW₁ hcl, st⟩
end VXID
/-! ===== END ===== -/
/-! ===== BEGIN a private method of a nest mate that may throw (follows va_callVN, va_callSN, va_runVN, va_runSN) ===== -/
section
variable {p : Program} {l : Launch} {e : Env} {R : Room} {s : State} {m : MethodId} {args : Array Value} {below : List Frame} {meth : Method} {c : Code} {H : Heap} {locs : List Loc} {cells slots : Nat}
variable {T : State}
theorem vx_callVN (X : Stand p l e R s m args below meth c T locs cells slots) (hexec : p.tables.exec = Jvm.exec) {own C : String} {index : Nat} {host : String} {y : MethodName} {bytes : ByteArray} {maxL : Nat} {ret : Option FieldType}
    (hown : s.vm.findClass own = some m.cls) (hlink : (Cond.methodLinkNest own index y host).before args s = true) (hinst : (Cond.instanceMethod y).before args s = true) (hsel : (Cond.selects C y y).before args s = true)
    (hcode : (Cond.code y bytes maxL ret).before args s = true) (hy : y.cls ≠ "java/lang/invoke/MethodHandle" ∧ y.cls ≠ "java/lang/invoke/VarHandle")
    {W : Nat} {Pre : Pt → Array Value → Prop} {Post : Pt → Array Value → Option Value → Pt → Prop} {PostX : Pt → Array Value → Addr → Pt → Prop} (hK : vx_Back l R p e below s args y 3 W Pre Post PostX)
    {b : Addr} {cellB : Cell} (hcell : T.heap[b]? = some cellB) (hobj : cellB.vm.isStatics = false) (hcls : s.vm.findClass C = some cellB.cls)
    {g : JFrame} (hg : g.method = m) (hsize : g.locals.size = c.maxLocals) {argsL rest : List Value} (hlen : ∀ sig, parseMethodDescriptor y.desc = some sig → argsL.length = sig.parameters.length)
    (hstack : g.stack = argsL.reverse ++ .ref b :: rest) (hW : 2 * g.monitorRoom + (rest.map fun v => v.category).sum ≤ W) (hdg : decode c.code g.pc = .ok (.invokevirtual index, 3))
    (hpre : ∀ vm₁, s.WarmedH vm₁ → Pre ⟨T.setVm vm₁, locs, cells, slots⟩ (Value.ref b :: argsL).toArray) :
    (∃ (v : Option Value) (vm₁ : Vm) (B : Pt), s.WarmedH vm₁ ∧ Stand p l e R s m args below meth c B.U B.locs B.cells B.slots ∧ Post ⟨T.setVm vm₁, locs, cells, slots⟩ (Value.ref b :: argsL).toArray v B ∧
      ∀ target, Steps p.tables e below (B.U.setTop { g with pc := g.pc + 3, stack := v.toList ++ rest }) target → Steps p.tables e below (T.setTop g) target) ∨
    (∃ (q : Addr) (vm₁ : Vm) (B : Pt), s.WarmedH vm₁ ∧ Stand p l e R s m args below meth c B.U B.locs B.cells B.slots ∧ PostX ⟨T.setVm vm₁, locs, cells, slots⟩ (Value.ref b :: argsL).toArray q B ∧
      Steps p.tables e below (T.setTop g) ((B.U.setTop { g with stack := rest }).pushFrame (.throwing q))) := by
  obtain ⟨mk, methM, hnamed, hmethM, hstM, habM⟩ := Cond.instanceMethod_spec hinst
  obtain ⟨methM', cM, hmethM', -, -, -, -, -, -, hsigM⟩ := Cond.code_spec hnamed hcode
  cases hmethM.symm.trans hmethM'
  obtain ⟨c2, r2, m2, q1, q2, q3, q4, kP, hkP, hkPi⟩ := Cond.selects_spec hsel
  cases hcls.symm.trans q1
  cases (State.methodFound?_of_named hnamed hy).symm.trans q2
  cases hnamed.symm.trans q3
  have hselP : selectMethod e.platform s.vm cellB.cls mk = .method mk := by rw [Launch.admits_selectMethod X.admits]; exact q4
  obtain ⟨vm₁, X₁, hstep₁⟩ := X.invokevirtualNest hexec hown hlink hnamed hmethM hstM hkP hkPi hy (a := b) (cell := cellB) hcell
    (fun z h => by rw [h] at hobj; cases hobj) hselP hmethM habM hkP hkPi (g := g) hg (argsL := argsL) (rest := rest) (hlen _ hsigM) hstack hdg
  rcases hK m meth c ⟨T.setVm vm₁, locs, cells, slots⟩ { g with stack := rest } (.invokevirtual index) mk (Value.ref b :: argsL).toArray X₁ hg hsize hdg hW (X₁.named hnamed) (hpre vm₁ X₁.warmed) with ⟨v, B, X', hpost, hsteps⟩ | ⟨q, B, X', hpost, hsteps⟩
  · exact Or.inl ⟨v, vm₁, B, X₁.warmed, X', hpost, fun target h => hstep₁ _ fun acts => by rw [doInvoke_state]; exact hsteps.trans h⟩
  · exact Or.inr ⟨q, vm₁, B, X₁.warmed, X', hpost, hstep₁ _ fun acts => by rw [doInvoke_state]; exact hsteps⟩
theorem vx_callSN (X : Stand p l e R s m args below meth c T locs cells slots) (hexec : p.tables.exec = Jvm.exec) {own : String} {index : Nat} {host : String} {y : MethodName} {bytes : ByteArray} {maxL : Nat} {ret : Option FieldType}
    (hown : s.vm.findClass own = some m.cls) (hlink : (Cond.methodLinkNest own index y host).before args s = true) (hstat : (Cond.static y).before args s = true) (hinit : (Cond.initialized y.cls).before args s = true)
    (hcode : (Cond.code y bytes maxL ret).before args s = true) (hy : y.cls ≠ "java/lang/invoke/MethodHandle" ∧ y.cls ≠ "java/lang/invoke/VarHandle")
    {W : Nat} {Pre : Pt → Array Value → Prop} {Post : Pt → Array Value → Option Value → Pt → Prop} {PostX : Pt → Array Value → Addr → Pt → Prop} (hK : vx_Back l R p e below s args y 3 W Pre Post PostX)
    {g : JFrame} (hg : g.method = m) (hsize : g.locals.size = c.maxLocals) {argsL rest : List Value} (hlen : ∀ sig, parseMethodDescriptor y.desc = some sig → argsL.length = sig.parameters.length)
    (hstack : g.stack = argsL.reverse ++ rest) (hW : 2 * g.monitorRoom + (rest.map fun v => v.category).sum ≤ W) (hdg : decode c.code g.pc = .ok (.invokestatic index, 3))
    (hpre : ∀ vm₁, s.WarmedH vm₁ → Pre ⟨T.setVm vm₁, locs, cells, slots⟩ argsL.toArray) :
    (∃ (v : Option Value) (vm₁ : Vm) (B : Pt), s.WarmedH vm₁ ∧ Stand p l e R s m args below meth c B.U B.locs B.cells B.slots ∧ Post ⟨T.setVm vm₁, locs, cells, slots⟩ argsL.toArray v B ∧
      ∀ target, Steps p.tables e below (B.U.setTop { g with pc := g.pc + 3, stack := v.toList ++ rest }) target → Steps p.tables e below (T.setTop g) target) ∨
    (∃ (q : Addr) (vm₁ : Vm) (B : Pt), s.WarmedH vm₁ ∧ Stand p l e R s m args below meth c B.U B.locs B.cells B.slots ∧ PostX ⟨T.setVm vm₁, locs, cells, slots⟩ argsL.toArray q B ∧
      Steps p.tables e below (T.setTop g) ((B.U.setTop { g with stack := rest }).pushFrame (.throwing q))) := by
  obtain ⟨mk, hnamed⟩ := Cond.code_named hcode
  obtain ⟨methM, cM, hmethM, -, -, -, -, -, -, hsigM⟩ := Cond.code_spec hnamed hcode
  have hstatic : methM.isStatic = true := Cond.static_spec hnamed hmethM hstat
  obtain ⟨kP, hkP, -⟩ := className_of_methodNamed hnamed
  have hinitP : kP.init = .initialized := Cond.initialized_spec (findClass_of_methodNamed hnamed) hkP hinit
  obtain ⟨vm₁, X₁, hstep₁⟩ := X.invokestaticNest hexec hown hlink hnamed hmethM hstatic hkP hinitP hy (g := g) hg (argsL := argsL) (rest := rest) (hlen _ hsigM) hstack hdg
  rcases hK m meth c ⟨T.setVm vm₁, locs, cells, slots⟩ { g with stack := rest } (.invokestatic index) mk argsL.toArray X₁ hg hsize hdg hW (X₁.named hnamed) (hpre vm₁ X₁.warmed) with ⟨v, B, X', hpost, hsteps⟩ | ⟨q, B, X', hpost, hsteps⟩
  · exact Or.inl ⟨v, vm₁, B, X₁.warmed, X', hpost, fun target h => hstep₁ _ fun acts => by rw [doInvoke_state]; exact hsteps.trans h⟩
  · exact Or.inr ⟨q, vm₁, B, X₁.warmed, X', hpost, hstep₁ _ fun acts => by rw [doInvoke_state]; exact hsteps⟩
theorem vx_runVN {y : MethodName} {bytes cc : ByteArray} {maxL nL mc ms n index : Nat} {ret : Option FieldType} {ws : List Cond} {rm : Room} {Pc : Array Value → State → Prop} {Qc : Array Value → State → Outcome → State → Prop} {XC : String → State → State → Prop} {free : Addr → Prop} {Ts : List Cond} {own C host : String} {b : Addr} {As rest : List Value} {g : JFrame}
    (S : CallFix p m c cc nL s args Ts own) (hM : vx_Met l y ws rm Pc Qc XC mc ms free) (cw : va_CN R s args own index y host bytes maxL ret ws rm mc ms n ∧ (Cond.instanceMethod y).before args s = true ∧ (Cond.selects C y y).before args s = true) (hp : PreV s H C b Pc As)
    (hg : g.method = m) (hn : As.length = n) (hsize : g.locals.size = nL) (hstack : g.stack = As.reverse ++ .ref b :: rest) (hW : 2 * g.monitorRoom + (rest.map fun v => v.category).sum ≤ 8) (hdg : decode cc g.pc = .ok (.invokevirtual index, 3)) (hf : cells + mc ≤ R.cells ∧ slots + ms ≤ R.slots) :
    vx_Run p l e R s m args below meth c H locs cells slots mc ms g rest (Qc (Value.ref b :: As).toArray) XC free := by
  obtain ⟨⟨⟨hrc, hrs, hfr, hlo, hws, hcw⟩, hcode, hini, hy, hlen, hl⟩, hx1, hx2⟩ := cw
  have hK : vx_Back l R p e below s args y 3 8 (PreOf R mc ms Pc) (PostOf Qc mc ms free) (vx_Post XC mc ms free) := vx_back (bytes := bytes) (maxL := maxL) (ret := ret) hM hp.1 hrc hrs hfr hlo hws hcw (fun a' U hW => word_at hW (Or.inl (by first | rfl | simp [Cond.onTables, Cond.keeps, Cond.steady])) hini)
  obtain ⟨hx, hb, hml, ho, -⟩ := S
  obtain ⟨-, ⟨cellB, hcB, hoB, hclB⟩, hPc⟩ := hp
  intro T hT X
  rcases vx_callVN X hx (C := C) (bytes := bytes) (maxL := maxL) (ret := ret) ho hl hx1 hx2 hcode hy hK (by rw [hT]; exact hcB) hoB hclB hg (hsize.trans hml.symm) (argsL := As) (rest := rest) (fun sig h => hn.trans (hlen sig h)) hstack hW (by rw [hb]; exact hdg)
    (fun vm₁ hW₁ => ⟨hf.1, hf.2, hPc (T.setVm vm₁) hT hW₁⟩) with ⟨v, vm₁, ⟨U', l2, c2, s2⟩, hW₁, X', ⟨g', mk, t, L, e1, e2, hq, h1, hL, h2, h3⟩, st⟩ | ⟨q, vm₁, ⟨U', l2, c2, s2⟩, hW₁, X', ⟨g', mk, t, L, E, ce, e1, e2, hq, hce, hcv, hcl, h1, hL, h2, h3⟩, st⟩
  · dsimp only [Pt.U, Pt.locs, Pt.cells, Pt.slots] at X' e1 e2 h1 h2 h3 st
    subst h1; subst h2; subst h3
    exact Or.inl ⟨v, (T.setVm vm₁).calling g' mk (Value.ref b :: As).toArray, t, U', L, hT, X', hL, e1, e2, hq, st⟩
  · dsimp only [Pt.U, Pt.locs, Pt.cells, Pt.slots] at X' e1 e2 h1 h2 h3 st hcl
    subst h1; subst h2; subst h3
    exact Or.inr ⟨q, (T.setVm vm₁).calling g' mk (Value.ref b :: As).toArray, t, U', L, E, ce, hT, X', hL, e1, e2, hq, hce, hcv, vx_cls hW₁ hcl, st⟩
theorem vx_runSN {y : MethodName} {bytes cc : ByteArray} {maxL nL mc ms n index : Nat} {ret : Option FieldType} {ws : List Cond} {rm : Room} {Pc : Array Value → State → Prop} {Qc : Array Value → State → Outcome → State → Prop} {XC : String → State → State → Prop} {free : Addr → Prop} {Ts : List Cond} {own host : String} {As rest : List Value} {g : JFrame}
    (S : CallFix p m c cc nL s args Ts own) (hM : vx_Met l y ws rm Pc Qc XC mc ms free) (cw : va_CN R s args own index y host bytes maxL ret ws rm mc ms n ∧ (Cond.static y).before args s = true ∧ True) (hp : PreS s H Pc As)
    (hg : g.method = m) (hn : As.length = n) (hsize : g.locals.size = nL) (hstack : g.stack = As.reverse ++ rest) (hW : 2 * g.monitorRoom + (rest.map fun v => v.category).sum ≤ 8) (hdg : decode cc g.pc = .ok (.invokestatic index, 3)) (hf : cells + mc ≤ R.cells ∧ slots + ms ≤ R.slots) :
    vx_Run p l e R s m args below meth c H locs cells slots mc ms g rest (Qc As.toArray) XC free := by
  obtain ⟨⟨⟨hrc, hrs, hfr, hlo, hws, hcw⟩, hcode, hini, hy, hlen, hl⟩, hx1, hx2⟩ := cw
  have hK : vx_Back l R p e below s args y 3 8 (PreOf R mc ms Pc) (PostOf Qc mc ms free) (vx_Post XC mc ms free) := vx_back (bytes := bytes) (maxL := maxL) (ret := ret) hM hp.1 hrc hrs hfr hlo hws hcw (fun a' U hW => word_at hW (Or.inl (by first | rfl | simp [Cond.onTables, Cond.keeps, Cond.steady])) hini)
  obtain ⟨hx, hb, hml, ho, -⟩ := S
  have hPc := hp.2
  intro T hT X
  rcases vx_callSN X hx (bytes := bytes) (maxL := maxL) (ret := ret) ho hl hx1 hini hcode hy hK hg (hsize.trans hml.symm) (argsL := As) (rest := rest) (fun sig h => hn.trans (hlen sig h)) hstack hW (by rw [hb]; exact hdg)
    (fun vm₁ hW₁ => ⟨hf.1, hf.2, hPc (T.setVm vm₁) hT hW₁⟩) with ⟨v, vm₁, ⟨U', l2, c2, s2⟩, hW₁, X', ⟨g', mk, t, L, e1, e2, hq, h1, hL, h2, h3⟩, st⟩ | ⟨q, vm₁, ⟨U', l2, c2, s2⟩, hW₁, X', ⟨g', mk, t, L, E, ce, e1, e2, hq, hce, hcv, hcl, h1, hL, h2, h3⟩, st⟩
  · dsimp only [Pt.U, Pt.locs, Pt.cells, Pt.slots] at X' e1 e2 h1 h2 h3 st
    subst h1; subst h2; subst h3
    exact Or.inl ⟨v, (T.setVm vm₁).calling g' mk As.toArray, t, U', L, hT, X', hL, e1, e2, hq, st⟩
  · dsimp only [Pt.U, Pt.locs, Pt.cells, Pt.slots] at X' e1 e2 h1 h2 h3 st hcl
    subst h1; subst h2; subst h3
    exact Or.inr ⟨q, (T.setVm vm₁).calling g' mk As.toArray, t, U', L, E, ce, hT, X', hL, e1, e2, hq, hce, hcv, vx_cls hW₁ hcl, st⟩
end
/-! ===== END ===== -/
/-! A STEP of the executor is a step of the machine -/
noncomputable def xrm (d i : Nat) : Room := { frames := d + 8, cells := (xmeths i).2.2.2.2.1, slots := (xmeths i).2.2.2.2.2, locals := 60 * d + 400 }
set_option maxRecDepth 20000 in
theorem xhroom0 {d z F L : Nat} (f4 : z ≤ 40) (h1 : d + 9 ≤ F) (h2 : 60 * d + 460 ≤ L) : d + 8 + 1 ≤ F ∧ 8 + (z + 11) + (60 * d + 400) ≤ L := by constructor <;> omega
theorem xhroom {d i F L : Nat} (f4 : xML i ≤ 40) (h1 : d + 9 ≤ F) (h2 : 60 * d + 460 ≤ L) : (xrm d i).frames + 1 ≤ F ∧ 8 + (xML i + 11) + (xrm d i).locals ≤ L := xhroom0 f4 h1 h2
def xws (i : Nat) : List Cond := xcw i :: xgw
def xPcL (L : Nat) (D : va_G) (ca : Nat → ClassId) (ρ : xE) (H0 : Heap) (as : List xV) (ex : Bool) (n : Nat) (t : xT) : Array Value → State → Prop := fun av U => xPc D ca ρ H0 as ex n t av U ∧ va_X ρ.2.1 L ρ.2.2 U H0
/-- what a run of method i over a picture says of the machine -/
noncomputable def xCon (l : Launch) (d : Nat) (D : va_G) (ca : Nat → ClassId) (ρ : xE) (H0 : Heap) (L i : Nat) (as : List xV) (ex : Bool) (n : Nat) (t : xT) (r : xO) : Prop :=
  vx_Met l (xY i) (xws i) (xrm d i) (xPcL L D ca ρ H0 as ex n t) (xQc D ca ρ H0 r) (xXC D ca ρ H0 r) (xmeths i).2.2.2.2.1 (xmeths i).2.2.2.2.2 (fun q => ρ.1 ≤ q)
def xdv (F : FieldType) : xV := match F with
  | .long => (3, 0)
  | .double => (4, 0)
  | .float => (11, 0)
  | .object _ => (0, 0)
  | .array _ => (0, 0)
  | _ => (2, 0)
theorem xdv_ok {ρ : xE} (F : FieldType) : xD ρ (xdv F) = defaultValue F := by cases F <;> rfl
theorem xnews_ok {ci : Nat} {F : Nat → FieldType} {N : Nat} (h : xnews ci = (List.range N).map (fun j => xdv (F j))) {ρ : xE} : ∀ j, j < N → ((xnews ci).map (xD ρ))[j]? = some (defaultValue (F j)) := by
  intro j hj
  rw [h, List.map_map, List.getElem?_map, List.getElem?_range hj]
  exact congrArg some (xdv_ok (F j))
theorem xlw0 : ∀ w ∈ u_ws RX1 TX1 7, w ∈ xgw := xin_gw [275, 277, 279, 281, 283, 285, 287] (by decide +kernel) (by decide +kernel)
theorem xlw1 : ∀ w ∈ u_ws RX2 TX2 9, w ∈ xgw := xin_gw [234, 236, 238, 240, 242, 244, 246, 248, 250] (by decide +kernel) (by decide +kernel)
theorem xlw2 : ∀ w ∈ u_ws RX3 TX3 6, w ∈ xgw := xin_gw [171, 173, 175, 177, 179, 181] (by decide +kernel) (by decide +kernel)
theorem xlw3 : ∀ w ∈ u_ws RX4 TX4 16, w ∈ xgw := xin_gw [316, 318, 320, 322, 324, 326, 328, 330, 332, 334, 336, 338, 340, 342, 344, 346] (by decide +kernel) (by decide +kernel)
theorem xlw4 : ∀ w ∈ u_ws RX5 TX5 3, w ∈ xgw := xin_gw [200, 202, 204] (by decide +kernel) (by decide +kernel)
theorem xlw5 : ∀ w ∈ u_ws RX7 TX7 6, w ∈ xgw := xin_gw [150, 152, 154, 156, 158, 160] (by decide +kernel) (by decide +kernel)
theorem xlw6 : ∀ w ∈ u_ws RX8 TX8 6, w ∈ xgw := xin_gw [106, 108, 110, 112, 114, 116] (by decide +kernel) (by decide +kernel)
theorem xlw7 : ∀ w ∈ u_ws RX9 TX9 3, w ∈ xgw := xin_gw [354, 356, 358] (by decide +kernel) (by decide +kernel)
theorem xlw8 : ∀ w ∈ u_ws RX8 TX8 6, w ∈ xgw := xin_gw [106, 108, 110, 112, 114, 116] (by decide +kernel) (by decide +kernel)
theorem xlw9 : ∀ w ∈ u_ws RX8 TX8 6, w ∈ xgw := xin_gw [106, 108, 110, 112, 114, 116] (by decide +kernel) (by decide +kernel)
theorem xlw10 : ∀ w ∈ u_ws RX8 TX8 6, w ∈ xgw := xin_gw [106, 108, 110, 112, 114, 116] (by decide +kernel) (by decide +kernel)
theorem xfacts {ρ : xE} : ∀ {ci : Nat}, ci < 11 → xcl[ci]? = some (xcC ci, xcT ci, xcN ci) ∧ (∀ w ∈ u_ws (xcC ci) (xcT ci) (xcN ci), w ∈ xgw) ∧ (∀ k, k < xcN ci → parseFieldDescriptor (xcT ci k).2.2.1 = some (xcF ci k)) ∧ (∀ a, a < xcN ci → ∀ b, b < xcN ci → a ≠ b → (xcT ci a).2.1 ≠ (xcT ci b).2.1) ∧ (∀ j, j < xcN ci → ((xnews ci).map (xD ρ))[j]? = some (defaultValue (xcF ci j)))
  | 0, _ => ⟨rfl, xlw0, tyX1_ok, nmX1, xnews_ok (F := tyX1) (N := 7) (by decide +kernel)⟩
  | 1, _ => ⟨rfl, xlw1, tyX2_ok, nmX2, xnews_ok (F := tyX2) (N := 9) (by decide +kernel)⟩
  | 2, _ => ⟨rfl, xlw2, tyX3_ok, nmX3, xnews_ok (F := tyX3) (N := 6) (by decide +kernel)⟩
  | 3, _ => ⟨rfl, xlw3, tyX4_ok, nmX4, xnews_ok (F := tyX4) (N := 16) (by decide +kernel)⟩
  | 4, _ => ⟨rfl, xlw4, tyX5_ok, nmX5, xnews_ok (F := tyX5) (N := 3) (by decide +kernel)⟩
  | 5, _ => ⟨rfl, xlw5, tyX7_ok, nmX7, xnews_ok (F := tyX7) (N := 6) (by decide +kernel)⟩
  | 6, _ => ⟨rfl, xlw6, tyX8_ok, nmX8, xnews_ok (F := tyX8) (N := 6) (by decide +kernel)⟩
  | 7, _ => ⟨rfl, xlw7, tyX9_ok, nmX9, xnews_ok (F := tyX9) (N := 3) (by decide +kernel)⟩
  | 8, _ => ⟨rfl, xlw8, tyX8_ok, nmX8, xnews_ok (F := tyX8) (N := 6) (by decide +kernel)⟩
  | 9, _ => ⟨rfl, xlw9, tyX8_ok, nmX8, xnews_ok (F := tyX8) (N := 6) (by decide +kernel)⟩
  | 10, _ => ⟨rfl, xlw10, tyX8_ok, nmX8, xnews_ok (F := tyX8) (N := 6) (by decide +kernel)⟩
  | n + 11, h => absurd h (by omega)
theorem xgood : ∀ w ∈ xgw, goodWord w = true := fun w h => (List.mem_filter.mp h).2
theorem xws_good {i : Nat} (h : xcw i ∈ xgw) : GoodIn xgw (xws i) := fun w hw => by
  rcases List.mem_cons.mp hw with rfl | hw
  · exact ⟨h, good_of_word (xgood _ h)⟩
  · exact ⟨hw, good_of_word (xgood _ hw)⟩
section XST
variable {p : Program} {l : Launch} {e : Env} {R : Room} {s : State} {m : MethodId} {args : Array Value} {below : List Frame} {meth : Method} {c : Code} {Q : State → Prop} {D : va_G} {ca : Nat → ClassId} {ρ : xE} {H0 : Heap} {nL : Nat}
variable {cc : ByteArray} {pc : Nat} {ls : xL} {st : List xV} {ex : Bool} {n : Nat} {t : xT} {a b : Nat}
/-- all that a method's frame has at hand -/
def xCtx (p : Program) (l : Launch) (R : Room) (s : State) (m : MethodId) (args : Array Value) (meth : Method) (c : Code) (D : va_G) (ca : Nat → ClassId) (ρ : xE) (H0 : Heap) (nL : Nat) (cc : ByteArray) (own nm : String) (d : Nat) (P2 : xQ) (B : xB) (call : xA) : Prop :=
  (p.tables.exec = Jvm.exec ∧ c.code = cc ∧ c.maxLocals = nL ∧ s.vm.findClass own = some m.cls ∧ meth.name = nm) ∧ (∀ w ∈ xgw, w.before args s = true) ∧ (xWorld D ca ρ s ∧ va_X ρ.2.1 B.2.1 ρ.2.2 s H0 ∧ ρ.2.1 < H0.size ∧ ∀ q : Nat, q < ρ.1 → s.heap[q]? = H0[q]?) ∧
  (xbds B ρ ∧ (B.1 < 32 → ρ.2.2 0 &&& 31 = Int32.ofInt (Int.ofNat B.1))) ∧ (d + 9 ≤ R.frames ∧ 60 * d + 460 ≤ R.locals ∧ R.cells = P2.2.2.2.1 ∧ R.slots = P2.2.2.2.2) ∧
  (∀ i as ex n t r, call i as ex n t = r → r.1 ≤ 3 → i < 131 → ((r.1 = 1 ∧ (xans (xmeths i).2.2.2.1 (rst r) = true ∧ r.2.1 = xrd (xmeths i).2.2.2.1)) ∨ (r.1 ≠ 1 ∧ xHH i = [])) → xCon l d D ca ρ H0 B.2.1 i as ex n t r)
theorem x_ctx_pre {own nm : String} {d : Nat} {P2 : xQ} {B : xB} {call : xA} (C : xCtx p l R s m args meth c D ca ρ H0 nL cc own nm d P2 B call) {H : Heap} {locs : List Loc} (hR : xRel D ca ρ H0 ex n t H locs) (as : List xV) : ∀ U : State, U.heap = H → s.WarmedH U.vm → xPcL B.2.1 D ca ρ H0 as ex n t (as.map (xD ρ)).toArray U := by
  obtain ⟨-, -, ⟨hW, hX, hbl, hs0⟩, -⟩ := C
  intro U hU hw
  refine ⟨⟨rfl, xWorld_warm hw (fun q hq => ?_) hW, ?_⟩, hX.moved hw.alike⟩
  · rw [hU, hs0 q hq]
    have hB : ρ.1 = H0.size := hR.2.2.2.2
    exact hR.2.2.2.1.2.1 q (by omega) (fun h => by have : ρ.1 ≤ q := h; omega)
  · rw [hU]
    exact ⟨hR.1, hR.2.1, hR.2.2.1, ⟨hR.2.2.2.1.1, hR.2.2.2.1.2.1, fun _ h => by cases h⟩, hR.2.2.2.2⟩
theorem xPcL_blind {L : Nat} {as : List xV} : FrameBlind (xPcL L D ca ρ H0 as ex n t) := fun av U g mk h => ⟨xPc_blind av U g mk h.1, h.2.moved (State.WarmedH.refl U).alike⟩
theorem xmf_ok {i : Nat} (h : i < 131) : plainName (xY i).cls = true ∧ ((xY i).cls ≠ "java/lang/invoke/MethodHandle" ∧ (xY i).cls ≠ "java/lang/invoke/VarHandle") ∧ (parseMethodDescriptor (xY i).desc).map (fun d => d.parameters.length) = some (xmeths i).2.2.1 ∧ (xML i ≤ 40 ∧ (xmeths i).1.1.2 = xML i) ∧ xrk (xRt i) = (xmeths i).2.2.2.1 ∧ ((xmeths i).2.1 = [] ↔ xHH i = []) := by
  have h1 := List.all_eq_true.mp xmf i (List.mem_range.mpr h)
  simp only [Bool.and_eq_true, decide_eq_true_eq] at h1
  exact h1
theorem xcw_nil {i : Nat} (h : xHH i = []) : xcw i = .code (xY i) (xBy i) (xML i) (xRt i) := by
  have h' : (xmi.getD i xmiD).2.2.2.2 = [] := h
  unfold xcw xcwq
  rw [h']
  rfl
theorem xcw_cons {i : Nat} (h : xHH i ≠ []) : xcw i = .codeWith (xY i) (xBy i) (xML i) (xRt i) (xHH i) := by
  unfold xcw xcwq
  cases h' : (xmi.getD i xmiD).2.2.2.2 with
  | nil => exact absurd h' h
  | cons x y =>
    show Cond.codeWith _ _ _ _ (x :: y) = Cond.codeWith _ _ _ _ (xmi.getD i xmiD).2.2.2.2
    rw [h']
    rfl
/-- a call, by its flavour; what is behind it by x_after -/
theorem x_runS {own nm : String} {d : Nat} {P2 : xQ} {B : xB} {call : xA} (C : xCtx p l R s m args meth c D ca ρ H0 nL cc own nm d P2 B call) {i idx alt : Nat} (hi : i < 131) (hal : alt = 0 ∨ xHH i = []) (hw : ∀ w ∈ [xwml alt own idx i, .static (xY i), .initialized (xY i).cls], w ∈ lw_tbl ∧ (goodWord w = true ∨ xnest w = true))
    {as : List xV} {r : xO} (hM : xCon l d D ca ρ H0 B.2.1 i as ex n t r) (hn : as.length = (xmeths i).2.2.1) (hsum : xsum st ≤ 8) (hca : a + (xmeths i).2.2.2.2.1 ≤ R.cells) (hcb : b + (xmeths i).2.2.2.2.2 ≤ R.slots) (hd : decode cc pc = .ok (.invokestatic idx, 3))
    {H : Heap} {locs : List Loc} {lsA : Array Slot} (hR : xRel D ca ρ H0 ex n t H locs) (hL : lv_has lsA nL (xM ρ ls)) :
    vx_Run p l e R s m args below meth c H locs a b (xmeths i).2.2.2.2.1 (xmeths i).2.2.2.2.2 (F0 m pc lsA ((as.reverse ++ st).map (xD ρ))) (st.map (xD ρ)) (xQc D ca ρ H0 r (as.map (xD ρ)).toArray) (xXC D ca ρ H0 r) (fun q => ρ.1 ≤ q) := by
  have hpre := x_ctx_pre (ex := ex) (n := n) (t := t) C hR as
  obtain ⟨⟨hx, hb, hml, hown, hnm⟩, hts, ⟨hW, hX, hbl, hs0⟩, -, ⟨hRf, hRl, hRc, hRs⟩, -⟩ := C
  obtain ⟨f1, f2, f3, ⟨f4, -⟩, f5, f6⟩ := xmf_ok hi
  have hcw := xmw i hi
  have hgood := xws_good hcw
  have g2 := hw (.static (xY i)) (by simp)
  have g3 := hw (.initialized (xY i).cls) (by simp)
  have hst : (Cond.static (xY i)).before args s = true := hts _ (xgw_of g2.1 rfl)
  have hin : (Cond.initialized (xY i).cls).before args s = true := hts _ (xgw_of g3.1 rfl)
  have h8 := lv_room (m := m) (pc := pc) (ls := lsA) (rest := (as.reverse ++ st).map (xD ρ)) (st := st.map (xD ρ)) (by rw [xsum_eq]; exact hsum)
  have hroom : (xrm d i).frames + 1 ≤ R.frames ∧ 8 + (xML i + 11) + (xrm d i).locals ≤ R.locals := xhroom f4 hRf hRl
  have hstk : (F0 m pc lsA ((as.reverse ++ st).map (xD ρ))).stack = (as.map (xD ρ)).reverse ++ st.map (xD ρ) := by
    show (as.reverse ++ st).map (xD ρ) = _
    rw [List.map_append, List.map_reverse]
  have S : CallFix p m c cc nL s args xgw own := ⟨hx, hb, hml, hown, hts⟩
  by_cases h0 : alt = 0
  · subst h0
    have g1 := hw (.methodLink own idx (xY i)) (by simp [xwml])
    have hl : (Cond.methodLink own idx (xY i)).before args s = true := hts _ (xgw_of g1.1 rfl)
    by_cases hh : xHH i = []
    · exact vx_runS (n := (xmeths i).2.2.1) S hM ⟨callB_of _ hts hgood (by unfold xws; rw [xcw_nil hh]) rfl rfl hin hl ⟨f2.1, f2.2, f3⟩ hroom, hst⟩ ⟨xPcL_blind, hpre⟩ rfl (by simpa using hn) hL.1 hstk h8 hd ⟨hca, hcb⟩
    · have hpn : ∀ sig, parseMethodDescriptor (xY i).desc = some sig → (xmeths i).2.2.1 = sig.parameters.length := fun sig h => by
        rw [h] at f3
        exact (Option.some.inj f3).symm
      have hc1 : Cond.codeWith (xY i) (xBy i) (xML i) (xRt i) (xHH i) ∈ xws i := by
        rw [← xcw_cons hh]
        exact List.mem_cons_self
      have hc2 : (Cond.codeWith (xY i) (xBy i) (xML i) (xRt i) (xHH i)).before args s = true := by
        rw [← xcw_cons hh]
        exact hts _ hcw
      exact vx_runSX (bytes := xBy i) (maxL := xML i) (ret := xRt i) (hh := xHH i) (n := (xmeths i).2.2.1) S hM ⟨⟨rfl, rfl, hroom.1, hroom.2, pay_in hts hgood, hc1⟩, hc2, hin, f2, hpn, hl, hst⟩ ⟨xPcL_blind, hpre⟩ rfl (by simpa using hn) hL.1 hstk h8 hd ⟨hca, hcb⟩
  · have hh : xHH i = [] := hal.resolve_left h0
    have g1 := hw (.methodLinkNest own idx (xY i) (xhost alt)) (by simp [xwml, h0])
    have hl : va_Nw (.methodLinkNest own idx (xY i) (xhost alt)) s := hW.2.1 _ g1.1 rfl
    exact vx_runSN (n := (xmeths i).2.2.1) S hM ⟨va_cnB _ hts hgood (by unfold xws; rw [xcw_nil hh]) rfl rfl hl hin ⟨f2.1, f2.2, f3⟩ hroom, hst, trivial⟩ ⟨xPcL_blind, hpre⟩ rfl (by simpa using hn) hL.1 hstk h8 hd ⟨hca, hcb⟩
theorem x_runV {own nm : String} {d : Nat} {P2 : xQ} {B : xB} {call : xA} (C : xCtx p l R s m args meth c D ca ρ H0 nL cc own nm d P2 B call) {i idx ci : Nat} (hi : i < 131) (hci : ci < 11) (hcls : xcC ci = (xY i).cls) (hh : xHH i = []) (hw : ∀ w ∈ [Cond.methodLink own idx (xY i), .instanceMethod (xY i), .selects (xY i).cls (xY i) (xY i), .initialized (xY i).cls], w ∈ lw_tbl ∧ (goodWord w = true ∨ xnest w = true))
    {as : List xV} {z : Int} {fs : List xV} (hz : xnat z < n) (hcell : tget (9, 0, []) 10 t (xnat z) = (0, ci, fs)) {r : xO} (hM : xCon l d D ca ρ H0 B.2.1 i ((1, z) :: as) ex n t r) (hn : as.length = (xmeths i).2.2.1) (hsum : xsum st ≤ 8) (hca : a + (xmeths i).2.2.2.2.1 ≤ R.cells) (hcb : b + (xmeths i).2.2.2.2.2 ≤ R.slots) (hd : decode cc pc = .ok (.invokevirtual idx, 3))
    {H : Heap} {locs : List Loc} {lsA : Array Slot} (hR : xRel D ca ρ H0 ex n t H locs) (hL : lv_has lsA nL (xM ρ ls)) :
    vx_Run p l e R s m args below meth c H locs a b (xmeths i).2.2.2.2.1 (xmeths i).2.2.2.2.2 (F0 m pc lsA ((as.reverse ++ (1, z) :: st).map (xD ρ))) (st.map (xD ρ)) (xQc D ca ρ H0 r (((1, z) :: as).map (xD ρ)).toArray) (xXC D ca ρ H0 r) (fun q => ρ.1 ≤ q) := by
  have hpre := x_ctx_pre (ex := ex) (n := n) (t := t) C hR ((1, z) :: as)
  obtain ⟨⟨hx, hb, hml, hown, hnm⟩, hts, ⟨hW, hX, hbl, hs0⟩, -, ⟨hRf, hRl, hRc, hRs⟩, -⟩ := C
  obtain ⟨f1, f2, f3, ⟨f4, -⟩, f5, f6⟩ := xmf_ok hi
  have hcw := xmw i hi
  have hgood := xws_good hcw
  have hl : (Cond.methodLink own idx (xY i)).before args s = true := hts _ (xgw_of (hw _ (by simp)).1 rfl)
  have hi2 : (Cond.instanceMethod (xY i)).before args s = true := hts _ (xgw_of (hw _ (by simp)).1 rfl)
  have hse : (Cond.selects (xY i).cls (xY i) (xY i)).before args s = true := hts _ (xgw_of (hw (.selects (xY i).cls (xY i) (xY i)) (by simp)).1 rfl)
  have hin : (Cond.initialized (xY i).cls).before args s = true := hts _ (xgw_of (hw (.initialized (xY i).cls) (by simp)).1 rfl)
  have h8 := lv_room (m := m) (pc := pc) (ls := lsA) (rest := (as.reverse ++ (1, z) :: st).map (xD ρ)) (st := st.map (xD ρ)) (by rw [xsum_eq]; exact hsum)
  have hroom : (xrm d i).frames + 1 ≤ R.frames ∧ 8 + (xML i + 11) + (xrm d i).locals ≤ R.locals := xhroom f4 hRf hRl
  have hstk : (F0 m pc lsA ((as.reverse ++ (1, z) :: st).map (xD ρ))).stack = (as.map (xD ρ)).reverse ++ .ref (ρ.1 + xnat z) :: st.map (xD ρ) := by
    show (as.reverse ++ (1, z) :: st).map (xD ρ) = _
    rw [List.map_append, List.map_reverse]
    rfl
  have S : CallFix p m c cc nL s args xgw own := ⟨hx, hb, hml, hown, hts⟩
  have hcl := (xfacts (ρ := ρ) hci).1
  have hrecv := va_recv hW.1 hR.1 hcl (xent (ca := ca) (ρ := ρ) hz hcell)
  rw [show (xcC ci, xcT ci, xcN ci).1 = (xY i).cls from hcls] at hrecv
  exact vx_runV (C := (xY i).cls) (n := (xmeths i).2.2.1) S hM ⟨callB_of _ hts hgood (by unfold xws; rw [xcw_nil hh]) rfl rfl hin hl ⟨f2.1, f2.2, f3⟩ hroom, hi2, hse⟩ ⟨xPcL_blind, hrecv, hpre⟩ rfl (by simpa using hn) hL.1 hstk h8 hd ⟨hca, hcb⟩
theorem x_runI {own nm : String} {d : Nat} {P2 : xQ} {B : xB} {call : xA} (C : xCtx p l R s m args meth c D ca ρ H0 nL cc own nm d P2 B call) {i idx alt : Nat} (hi : i < 131) (hnm1 : (xY i).name = "<init>") (hrt : xRt i = none) (hh : xHH i = []) (hw : ∀ w ∈ [xwml alt own idx i, .instanceMethod (xY i), .initialized (xY i).cls], w ∈ lw_tbl ∧ (goodWord w = true ∨ xnest w = true))
    {as : List xV} {z : Int} {r : xO} (hM : xCon l d D ca ρ H0 B.2.1 i ((1, z) :: as) ex n t r) (hn : as.length = (xmeths i).2.2.1) (hsum : xsum st ≤ 8) (hca : a + (xmeths i).2.2.2.2.1 ≤ R.cells) (hcb : b + (xmeths i).2.2.2.2.2 ≤ R.slots) (hd : decode cc pc = .ok (.invokespecial idx, 3))
    {H : Heap} {locs : List Loc} {lsA : Array Slot} (hR : xRel D ca ρ H0 ex n t H locs) (hL : lv_has lsA nL (xM ρ ls)) :
    vx_Run p l e R s m args below meth c H locs a b (xmeths i).2.2.2.2.1 (xmeths i).2.2.2.2.2 (F0 m pc lsA ((as.reverse ++ (1, z) :: st).map (xD ρ))) (st.map (xD ρ)) (xQc D ca ρ H0 r (((1, z) :: as).map (xD ρ)).toArray) (xXC D ca ρ H0 r) (fun q => ρ.1 ≤ q) := by
  have hpre := x_ctx_pre (ex := ex) (n := n) (t := t) C hR ((1, z) :: as)
  obtain ⟨⟨hx, hb, hml, hown, hnm⟩, hts, ⟨hW, hX, hbl, hs0⟩, -, ⟨hRf, hRl, hRc, hRs⟩, -⟩ := C
  obtain ⟨f1, f2, f3, ⟨f4, -⟩, f5, f6⟩ := xmf_ok hi
  have hcw := xmw i hi
  have hgood := xws_good hcw
  have hi2 : (Cond.instanceMethod (xY i)).before args s = true := hts _ (xgw_of (hw _ (by simp)).1 rfl)
  have hin : (Cond.initialized (xY i).cls).before args s = true := hts _ (xgw_of (hw (.initialized (xY i).cls) (by simp)).1 rfl)
  have h8 := lv_room (m := m) (pc := pc) (ls := lsA) (rest := (as.reverse ++ (1, z) :: st).map (xD ρ)) (st := st.map (xD ρ)) (by rw [xsum_eq]; exact hsum)
  have hroom : (xrm d i).frames + 1 ≤ R.frames ∧ 8 + (xML i + 11) + (xrm d i).locals ≤ R.locals := xhroom f4 hRf hRl
  have hstk : (F0 m pc lsA ((as.reverse ++ (1, z) :: st).map (xD ρ))).stack = (as.map (xD ρ)).reverse ++ .ref (ρ.1 + xnat z) :: st.map (xD ρ) := by
    show (as.reverse ++ (1, z) :: st).map (xD ρ) = _
    rw [List.map_append, List.map_reverse]
    rfl
  have S : CallFix p m c cc nL s args xgw own := ⟨hx, hb, hml, hown, hts⟩
  have hwn : xws i = Cond.code (xY i) (xBy i) (xML i) none :: xgw := by unfold xws; rw [xcw_nil hh, hrt]
  by_cases h0 : alt = 0
  · subst h0
    have hl : (Cond.methodLink own idx (xY i)).before args s = true := hts _ (xgw_of (hw (.methodLink own idx (xY i)) (by simp [xwml])).1 rfl)
    exact vx_runI (n := (xmeths i).2.2.1) S hM (cwI _ hts hgood hwn rfl rfl hin hl hi2 hnm1 ⟨f2.1, f2.2, f3⟩ hroom) ⟨xPcL_blind, hpre⟩ rfl (by simpa using hn) hL.1 hstk h8 hd ⟨hca, hcb⟩
  · have hl : va_Nw (.methodLinkNest own idx (xY i) (xhost alt)) s := hW.2.1 _ (hw (.methodLinkNest own idx (xY i) (xhost alt)) (by simp [xwml, h0])).1 rfl
    exact vx_runIN (n := (xmeths i).2.2.1) S hM ⟨va_cnB _ hts hgood hwn rfl rfl hl hin ⟨f2.1, f2.2, f3⟩ hroom, hnm1, hi2⟩ ⟨xPcL_blind, hpre⟩ rfl (by simpa using hn) hL.1 hstk h8 hd ⟨hca, hcb⟩
end XST
