/-! WHAT THE TABLES SAY, and the lists' check by the kernel -/
noncomputable def tleaves {α : Type} (t : Lean.RArray α) : List α → List α := Lean.RArray.rec (fun x acc => x :: acc) (fun _ _ _ a b acc => a (b acc)) t
theorem tleaves_app {α : Type} : ∀ (t : Lean.RArray α) (acc : List α), tleaves t acc = tleaves t [] ++ acc
  | .leaf x, acc => rfl
  | .branch p l r, acc => by
    show tleaves l (tleaves r acc) = tleaves l (tleaves r []) ++ acc
    rw [tleaves_app l (tleaves r acc), tleaves_app r acc, tleaves_app l (tleaves r []), List.append_assoc]
theorem tget_mem {α : Type} (z : α) : ∀ (d : Nat) (t : Lean.RArray α) (k : Nat), tget z d t k = z ∨ tget z d t k ∈ tleaves t []
  | 0, .leaf x, _ => Or.inr List.mem_cons_self
  | 0, .branch _ _ _, _ => Or.inl rfl
  | d + 1, .leaf x, _ => Or.inr List.mem_cons_self
  | d + 1, .branch p l r, k => by
    have e : tleaves (.branch p l r) [] = tleaves l [] ++ tleaves r [] := by
      show tleaves l (tleaves r []) = _
      rw [tleaves_app]
    rw [e]
    show cond (Nat.beq (k % 2) 0) (tget z d l (k / 2)) (tget z d r (k / 2)) = z ∨ cond (Nat.beq (k % 2) 0) (tget z d l (k / 2)) (tget z d r (k / 2)) ∈ _
    cases Nat.beq (k % 2) 0 with
    | true => exact (tget_mem z d l (k / 2)).imp id (fun h => List.mem_append_left _ h)
    | false => exact (tget_mem z d r (k / 2)).imp id (fun h => List.mem_append_right _ h)
def xmiD : MethodName × ByteArray × Nat × Option FieldType × List (Nat × Nat × Nat × Nat) := (⟨"", "", ""⟩, ⟨#[]⟩, 0, none, [])
def xY (i : Nat) : MethodName := (xmi.getD i xmiD).1
def xBy (i : Nat) : ByteArray := (xmi.getD i xmiD).2.1
def xML (i : Nat) : Nat := (xmi.getD i xmiD).2.2.1
def xRt (i : Nat) : Option FieldType := (xmi.getD i xmiD).2.2.2.1
def xHH (i : Nat) : List (Nat × Nat × Nat × Nat) := (xmi.getD i xmiD).2.2.2.2
def xcwq (q : MethodName × ByteArray × Nat × Option FieldType × List (Nat × Nat × Nat × Nat)) : Cond := match q.2.2.2.2 with
  | [] => .code q.1 q.2.1 q.2.2.1 q.2.2.2.1
  | hh => .codeWith q.1 q.2.1 q.2.2.1 q.2.2.2.1 hh
def xcw (i : Nat) : Cond := xcwq (xmi.getD i xmiD)
def xclD : vw_C := ("", fun _ => ("", "", "", false), 0)
noncomputable def xcC (ci : Nat) : String := (xcl.getD ci xclD).1
noncomputable def xcT (ci : Nat) : u_T := (xcl.getD ci xclD).2.1
noncomputable def xcN (ci : Nat) : Nat := (xcl.getD ci xclD).2.2
def xcF (ci : Nat) : Nat → FieldType := [tyX1, tyX2, tyX3, tyX4, tyX5, tyX7, tyX8, tyX9, tyX8, tyX8, tyX8].getD ci (fun _ => .int)
def xhost (alt : Nat) : String := if alt = 1 then "PolyglotPier" else "PolyglotPierModel"
noncomputable def xwfl (alt : Nat) (own : String) (i ci k : Nat) : Cond := if alt = 0 then .fieldLink own i (xcC ci) (xcT ci k).2.1 (xcT ci k).2.2.1 else .fieldLinkNest own i (xcC ci) (xcT ci k).2.1 (xcT ci k).2.2.1 (xhost alt)
def xwml (alt : Nat) (own : String) (i x : Nat) : Cond := if alt = 0 then .methodLink own i (xY x) else .methodLinkNest own i (xY x) (xhost alt)
noncomputable def xwords (own : String) (ins : Instr) (x y z alt : Nat) : List Cond := match ins with
  | .getfield i => [xwfl alt own i x y]
  | .putfield i => [.fieldLink own i (xcC x) (xcT x y).2.1 (xcT x y).2.2.1]
  | .new i => if z = 1 then [] else [.classLink own i (xcC x), .instantiable (xcC x) (xcN x), .initialized (xcC x)]
  | .newarray t => [.arrayClass (newarray.typeOf t)]
  | .anewarray i => [.classLink own i (xtyC (x - 5))]
  | .invokestatic i => [xwml alt own i x, .static (xY x), .initialized (xY x).cls]
  | .invokevirtual i => [.methodLink own i (xY x), .instanceMethod (xY x), .selects (xY x).cls (xY x) (xY x), .initialized (xY x).cls]
  | .invokespecial i => if y = 9 then [.methodLink own i objectInit, .instanceMethod objectInit, .code objectInit ⟨#[0xb1]⟩ 1 none] else [xwml alt own i x, .instanceMethod (xY x), .initialized (xY x).cls]
  | _ => []
/-- the numbers of an instruction's row -/
noncomputable def xextra (own nm : String) (nL : Nat) (ins : Instr) (pc len x y z alt : Nat) : Bool := match ins with
  | .iconst _ | .lconst _ | .dconst _ | .fconst _ | .aconst_null | .iadd | .isub | .imul | .idiv | .iand | .i2l | .l2i | .i2c | .i2d | .l2d | .lcmp | .dup | .pop | .arraylength | .iaload | .baload | .laload | .aaload | .iastore | .bastore | .lastore | .aastore
  | .ireturn | .lreturn | .dreturn | .freturn | .areturn | .return_ | .iload_n _ | .lload_n _ | .dload_n _ | .aload_n _ => decide (len = 1)
  | .bipush n => decide (len = 2) && decide ((Int8.ofInt n).toInt32 = Int32.ofInt n)
  | .sipush n => decide (len = 3) && decide ((Int16.ofInt n).toInt32 = Int32.ofInt n)
  | .iload _ | .lload _ | .dload _ | .aload _ => decide (len = 2)
  | .istore k | .fstore k | .astore k => decide (len = 2) && decide (k < nL)
  | .istore_n k | .fstore_n k | .astore_n k => decide (len = 1) && decide (k.val < nL)
  | .lstore k | .dstore k => decide (len = 2) && decide (k + 1 < nL)
  | .lstore_n k | .dstore_n k => decide (len = 1) && decide (k.val + 1 < nL)
  | .iinc k _ => decide (len = 3) && decide (k < nL)
  | .ifCond _ off | .if_icmp _ off | .goto off | .ifnull off | .ifnonnull off => decide (len = 3) && decide ((pc : Int) + off = (x : Int))
  | .tableswitch d lo hi offs => decide ((offs.toList.length : Int) = hi - lo + 1) && (decide (0 ≤ (pc : Int) + d) && offs.toList.all (fun o => decide (0 ≤ (pc : Int) + o)))
  | .getfield _ => decide (len = 3) && (decide (x < 11) && (decide (y < xcN x) && decide ((xcT x y).1 = xcC x)))
  | .putfield _ => decide (len = 3) && (decide (x < 11) && (decide (y < xcN x) && (decide ((xcT x y).1 = xcC x) && ((decide ((xcT x y).2.2.2 = false) || (decide (nm = "<init>") && decide ((xcT x y).1 = own))) &&
      (match z with | 0 => decide (xcF x y = .int) | 1 => decide (xcF x y = .char) | 2 => decide (xcF x y = .boolean) | 3 => decide (xcF x y = .long) | 4 => decide (xcF x y = .double) | _ => (xcF x y).isReference)))))
  | .new _ => decide (len = 3) && (decide (z = 1) || (decide (x < 11) && decide (y = xcN x)))
  | .newarray t => decide (len = 2) && (decide (x ≤ 1) && decide (newarray.typeOf t = xtyF x))
  | .anewarray _ => decide (len = 3) && (decide (5 ≤ x) && decide (x ≤ 10))
  | .ladd | .lsub | .lmul | .ldiv | .dadd | .dsub | .dmul | .ddiv | .dneg | .dcmp _ | .d2l | .d2i | .irem | .ishr | .caload | .castore | .ixor | .ior | .dup2 | .lneg | .ineg | .iushr | .ishl | .dup_x1 => decide (len = 1)
  | .lookupswitch d pa => (pa.toList.zip (pa.toList.drop 1)).all (fun (a, next) => a.1 < next.1) && (decide (0 ≤ (pc : Int) + d) && pa.toList.all (fun o => decide (0 ≤ (pc : Int) + o.2)))
  | .ldc2_w _ => decide (len = 3)
  | .ldc _ => decide (len = 2)
  | .ldc_w _ => decide (len = 3)
  | .athrow => decide (len = 1)
  | .invokestatic _ => decide (len = 3) && (decide (x < 131) && (decide (alt = 0) || decide (xHH x = [])))
  | .invokevirtual _ => decide (len = 3) && (decide (x < 131) && (decide (y = 0) && (decide (z < 11) && (decide (xcC z = (xY x).cls) && decide (xHH x = [])))))
  | .invokespecial _ => decide (len = 3) && (decide (y = 9) || (decide (x < 131) && (decide (y = 1) && (decide ((xY x).name = "<init>") && (decide (xRt x = none) && decide (xHH x = []))))))
  | _ => false
/-- the throws: own class, new's number, the text's, the constructor's, the class thrown, is the text's index wide, the text -/
def xsites : List (String × Nat × Nat × Nat × Nat × Nat × String) := [("PolyglotPier", 32, 34, 36, 0, 0, "no such language or number of parameters"),
  ("PolyglotPier", 32, 64, 36, 0, 0, "no such op or number"),
  ("PolyglotPier", 32, 81, 36, 0, 0, "no such places"),
  ("PolyglotPier", 43, 45, 47, 5, 0, "there are 9 functions"),
  ("PolyglotPier", 43, 75, 47, 5, 0, "the function has 20 codes"),
  ("PolyglotPier", 43, 180, 47, 5, 0, "there are 60 things"),
  ("PolyglotPier", 120, 122, 124, 2, 0, "no result"),
  ("PolyglotPier", 120, 134, 124, 2, 0, "no number"),
  ("PolyglotPier", 120, 143, 124, 2, 0, "no whole number"),
  ("PolyglotPier", 120, 223, 124, 2, 0, "neither a number nor a reference"),
  ("PolyglotPier", 120, 273, 124, 2, 1, "no throw left the last run"),
  ("PolyglotPier", 120, 284, 124, 2, 1, "the thing is freed"),
  ("PolyglotPier", 268, 270, 272, 4, 1, "no such index"),
  ("PolyglotPier", 275, 277, 279, 3, 1, "the global refers to no thing")]
def xthr (own : String) (cc : ByteArray) (pc ik E : Nat) : Bool := xsites.any (fun q => decide (q.1 = own) && (decide (q.2.1 = ik) && (decide (q.2.2.2.2.1 = E) && (decide (decode cc (pc + 3) = .ok (.dup, 1)) &&
  ((decide (q.2.2.2.2.2.1 = 0) && (decide (decode cc (pc + 4) = .ok (.ldc q.2.2.1, 2)) && (decide (decode cc (pc + 6) = .ok (.invokespecial q.2.2.2.1, 3)) && decide (decode cc (pc + 9) = .ok (.athrow, 1))))) ||
   (decide (q.2.2.2.2.2.1 = 1) && (decide (decode cc (pc + 4) = .ok (.ldc_w q.2.2.1, 3)) && (decide (decode cc (pc + 7) = .ok (.invokespecial q.2.2.2.1, 3)) && decide (decode cc (pc + 10) = .ok (.athrow, 1))))))))))
def xEok (own nm : String) (nL : Nat) (cc : ByteArray) (e : Nat × Nat × Nat × Nat × Nat) (ins : Instr) (alt : Nat) : Prop :=
  decode cc e.1 = .ok (ins, e.2.1) ∧ (∀ w ∈ xwords own ins e.2.2.1 e.2.2.2.1 e.2.2.2.2 alt, w ∈ lw_tbl ∧ (goodWord w = true ∨ xnest w = true)) ∧ xextra own nm nL ins e.1 e.2.1 e.2.2.1 e.2.2.2.1 e.2.2.2.2 alt = true ∧ ∀ i, ins = .new i → e.2.2.2.2 = 1 → xthr own cc e.1 i e.2.2.1 = true
noncomputable def xchk (own nm : String) (nL : Nat) (cc : ByteArray) (o : Option xIn) : Bool := match o with
  | none => true
  | some q => decide (decode cc q.2.1.1 = .ok (q.1, q.2.1.2.1)) && (decide (xwords own q.1 q.2.1.2.2.1 q.2.1.2.2.2.1 q.2.1.2.2.2.2 q.2.2.1 = q.2.2.2.filterMap (fun i => lw_tbl[i]?)) &&
      ((xwords own q.1 q.2.1.2.2.1 q.2.1.2.2.2.1 q.2.1.2.2.2.2 q.2.2.1).all (fun w => goodWord w || xnest w) && (xextra own nm nL q.1 q.2.1.1 q.2.1.2.1 q.2.1.2.2.1 q.2.1.2.2.2.1 q.2.1.2.2.2.2 q.2.2.1 && (match q.1 with | .new i => !(decide (q.2.1.2.2.2.2 = 1)) || xthr own cc q.2.1.1 i q.2.1.2.2.1 | _ => true))))
noncomputable def xmk (o : Option xIn) : xEn := match o with
  | none => xno
  | some q => (xhand q.1, q.2.1)
theorem xchk_ok {own nm : String} {nL : Nat} {cc : ByteArray} {q : xIn} (h : xchk own nm nL cc (some q) = true) : xEok own nm nL cc q.2.1 q.1 q.2.2.1 := by
  simp only [xchk, Bool.and_eq_true, decide_eq_true_eq] at h
  obtain ⟨h1, h2, h3, h4, h5⟩ := h
  refine ⟨h1, fun w hw => ⟨?_, ?_⟩, h4, fun i hi hz => ?_⟩
  · rw [h2] at hw
    obtain ⟨i, -, hi⟩ := List.mem_filterMap.mp hw
    exact List.mem_of_getElem? hi
  · have := List.all_eq_true.mp h3 w hw
    simpa using this
  · rw [hi] at h5
    have h6 : (!(decide (q.2.1.2.2.2.2 = 1)) || xthr own cc q.2.1.1 i q.2.1.2.2.1) = true := h5
    rw [decide_eq_true hz] at h6
    exact h6
/-- a method's table is as its code -/
def xTab (own nm : String) (nL : Nat) (cc : ByteArray) (P : xP) : Prop := ∀ e ∈ tleaves P.1.2 [], e = xno ∨ ∃ (ins : Instr) (alt : Nat), e.1 = xhand ins ∧ xEok own nm nL cc e.2 ins alt
theorem xTab_of {own nm : String} {nL : Nat} {cc : ByteArray} {P : xP} (L : List (Option xIn)) (hl : tleaves P.1.2 [] = L.map xmk) (hc : L.all (xchk own nm nL cc) = true) : xTab own nm nL cc P := by
  intro e he
  rw [hl] at he
  obtain ⟨o, ho, rfl⟩ := List.mem_map.mp he
  have h := List.all_eq_true.mp hc o ho
  cases o with
  | none => exact Or.inl rfl
  | some q => exact Or.inr ⟨q.1, q.2.2.1, rfl, xchk_ok h⟩
theorem xgw_of {w : Cond} (h1 : w ∈ lw_tbl) (h2 : goodWord w = true) : w ∈ xgw := List.mem_filter.mpr ⟨h1, h2⟩
theorem xin_gw {ws : List Cond} (ps : List Nat) (hp : ws = ps.filterMap (fun i => lw_tbl[i]?)) (h : ws.all goodWord = true) : ∀ w ∈ ws, w ∈ xgw := by
  intro w hw
  refine xgw_of ?_ (List.all_eq_true.mp h w hw)
  rw [hp] at hw
  obtain ⟨i, -, hi⟩ := List.mem_filterMap.mp hw
  exact List.mem_of_getElem? hi
