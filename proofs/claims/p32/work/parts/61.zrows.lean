/-! ONE ROW AN INSTRUCTION over a heap of numbers -/
/-- what a contract speaks of: the launch, the classes' numbers, the first cell and the script, the heap below, the script's length -/
abbrev zK : Type := Launch × va_G × (Nat → ClassId) × xE × Heap × Nat
/-- a frame that is walked: the program and so on, the goal -/
abbrev zO : Type := zK × Program × Env × Room × State × MethodId × Array Value × List Frame × Method × Code × (State → Prop)
abbrev oK (ω : zO) : zK := ω.1
abbrev oP (ω : zO) : Program := ω.2.1
abbrev oE (ω : zO) : Env := ω.2.2.1
abbrev oR (ω : zO) : Room := ω.2.2.2.1
abbrev oS (ω : zO) : State := ω.2.2.2.2.1
abbrev oM (ω : zO) : MethodId := ω.2.2.2.2.2.1
abbrev oA (ω : zO) : Array Value := ω.2.2.2.2.2.2.1
abbrev oB (ω : zO) : List Frame := ω.2.2.2.2.2.2.2.1
abbrev oT (ω : zO) : Method := ω.2.2.2.2.2.2.2.2.1
abbrev oC (ω : zO) : Code := ω.2.2.2.2.2.2.2.2.2.1
abbrev oQ (ω : zO) : State → Prop := ω.2.2.2.2.2.2.2.2.2.2
abbrev kL (κ : zK) : Launch := κ.1
abbrev kD (κ : zK) : va_G := κ.2.1
abbrev kC (κ : zK) : Nat → ClassId := κ.2.2.1
abbrev kρ (κ : zK) : xE := κ.2.2.2.1
abbrev kH (κ : zK) : Heap := κ.2.2.2.2.1
abbrev kN (κ : zK) : Nat := κ.2.2.2.2.2
def zfind (L : List (Option xIn)) (pc : Nat) : Option xIn := match L with
  | [] => none
  | o :: L => match o with
    | none => zfind L pc
    | some q => cond (Nat.beq q.2.1.1 pc) (some q) (zfind L pc)
theorem zfind_ok {pc : Nat} {q : xIn} : ∀ {L : List (Option xIn)}, zfind L pc = some q → some q ∈ L ∧ q.2.1.1 = pc
  | [], h => by cases h
  | none :: L, h => by
    obtain ⟨h1, h2⟩ := zfind_ok (L := L) h
    exact ⟨List.mem_cons_of_mem _ h1, h2⟩
  | some q9 :: L, h => by
    have h : cond (Nat.beq q9.2.1.1 pc) (some q9) (zfind L pc) = some q := h
    cases hb : Nat.beq q9.2.1.1 pc with
    | true =>
      rw [hb] at h
      have e : q9 = q := Option.some.inj h
      subst e
      exact ⟨List.mem_cons_self, Nat.eq_of_beq_eq_true hb⟩
    | false =>
      rw [hb] at h
      obtain ⟨h1, h2⟩ := zfind_ok (L := L) h
      exact ⟨List.mem_cons_of_mem _ h1, h2⟩
/-- what stands at a place of a method -/
def zat (i pc : Nat) : Option xIn := zfind (zLs.getD i []) pc
/-- what a frame has at hand -/
def zX (ω : zO) (mi : Nat) : Prop :=
  ((oP ω).tables.exec = Jvm.exec ∧ (oC ω).code = xBy mi ∧ (oC ω).maxLocals = xML mi ∧ (oS ω).vm.findClass (xY mi).cls = some (oM ω).cls ∧ (oT ω).name = (xY mi).name) ∧ (∀ w ∈ xgw, w.before (oA ω) (oS ω) = true) ∧
  (xWorld (kD (oK ω)) (kC (oK ω)) (kρ (oK ω)) (oS ω) ∧ va_X (kρ (oK ω)).2.1 (kN (oK ω)) (kρ (oK ω)).2.2 (oS ω) (kH (oK ω)) ∧ (kρ (oK ω)).2.1 < (kH (oK ω)).size ∧ ∀ q : Nat, q < (kρ (oK ω)).1 → (oS ω).heap[q]? = (kH (oK ω))[q]?) ∧
  mi < xNM ∧ zh mi + 8 ≤ (oR ω).frames ∧ 60 * zh mi + 400 ≤ (oR ω).locals ∧ (oT ω).sig.returnType = xRt mi ∧ (oT ω).locks = false ∧ (xHH mi = [] → ∀ x ∈ (oC ω).exceptionTable.toList, False) ∧ (kL (oK ω)).stackTraces = false
def ZG (ω : zO) (mi : Nat) (pc : Nat) (ls : List (Nat × zV)) (st : List zV) (h : zH) (a b : Nat) : Prop :=
  ∀ (H : Heap) (locs : List Loc) (lsA : Array Slot), zRel (kD (oK ω)) (kC (oK ω)) (kρ (oK ω)) (kH (oK ω)) h H locs → lv_has lsA (xML mi) (zM (kρ (oK ω)) ls) →
    W (oP ω) (kL (oK ω)) (oE ω) (oR ω) (oS ω) (oM ω) (oA ω) (oB ω) (oT ω) (oC ω) H locs a b (oQ ω) (F0 (oM ω) pc lsA (st.map (zD (kρ (oK ω)))))
section ZR
variable {ω : zO} {mi pc a b : Nat} {ls : List (Nat × zV)} {st : List zV} {h : zH}
theorem zok (C : zX ω mi) {q : xIn} (ht : zat mi pc = some q) : decode (xBy mi) pc = .ok (q.1, q.2.1.2.1) ∧ (∀ w ∈ xwords (xY mi).cls q.1 q.2.1.2.2.1 q.2.1.2.2.2.1 q.2.1.2.2.2.2 q.2.2.1, w ∈ lw_tbl ∧ (goodWord w = true ∨ xnest w = true)) ∧
    xextra (xY mi).cls (xY mi).name (xML mi) q.1 pc q.2.1.2.1 q.2.1.2.2.1 q.2.1.2.2.2.1 q.2.1.2.2.2.2 q.2.2.1 = true := by
  obtain ⟨h1, h2⟩ := zfind_ok ht
  have h3 := List.all_eq_true.mp (ztabs _ C.2.2.2.1) _ h1
  obtain ⟨g1, g2, g3, -⟩ := xchk_ok h3
  rw [h2] at g1 g3
  exact ⟨g1, g2, g3⟩
/-- fewer locals -/
theorem z_ls (ls' : List (Nat × zV)) (hs : ∀ q ∈ ls', q ∈ ls) (kk : ZG ω mi pc ls' st h a b) : ZG ω mi pc ls st h a b := fun H locs lsA hR hL =>
  kk H locs lsA hR (lv_weak hL fun q hq => by
    obtain ⟨x, hx, rfl⟩ := List.mem_map.mp hq
    exact List.mem_map.mpr ⟨x, hs x hx, rfl⟩)
theorem z_iconst (C : zX ω mi) {k : Int} {ix iy iz alt : Nat} {ps : List Nat} (ht : zat mi pc = some (.iconst k, (pc, 1, ix, iy, iz), alt, ps)) (kk : ZG ω mi (pc + 1) ls (zi (Int32.ofInt k) :: st) h a b) : ZG ω mi pc ls st h a b := by
  obtain ⟨hd, hw, hE⟩ := zok C ht
  obtain ⟨⟨hx, hb, hml, hown, hnm⟩, hts, ⟨hWd, hX, hbl, hs0⟩, hi, hRf, hRl⟩ := C
  exact fun H locs lsA hR hL => lv_iconst hx hb hd rfl (kk H locs lsA hR hL)
theorem z_bipush (C : zX ω mi) {k : Int} {ix iy iz alt : Nat} {ps : List Nat} (ht : zat mi pc = some (.bipush k, (pc, 2, ix, iy, iz), alt, ps)) (kk : ZG ω mi (pc + 2) ls (zi (Int32.ofInt k) :: st) h a b) : ZG ω mi pc ls st h a b := by
  obtain ⟨hd, hw, hE⟩ := zok C ht
  obtain ⟨⟨hx, hb, hml, hown, hnm⟩, hts, ⟨hWd, hX, hbl, hs0⟩, hi, hRf, hRl⟩ := C
  simp only [xextra, Bool.and_eq_true, decide_eq_true_eq] at hE
  exact fun H locs lsA hR hL => lv_bipush hx hb hd hE.2 (kk H locs lsA hR hL)
theorem z_sipush (C : zX ω mi) {k : Int} {ix iy iz alt : Nat} {ps : List Nat} (ht : zat mi pc = some (.sipush k, (pc, 3, ix, iy, iz), alt, ps)) (kk : ZG ω mi (pc + 3) ls (zi (Int32.ofInt k) :: st) h a b) : ZG ω mi pc ls st h a b := by
  obtain ⟨hd, hw, hE⟩ := zok C ht
  obtain ⟨⟨hx, hb, hml, hown, hnm⟩, hts, ⟨hWd, hX, hbl, hs0⟩, hi, hRf, hRl⟩ := C
  simp only [xextra, Bool.and_eq_true, decide_eq_true_eq] at hE
  exact fun H locs lsA hR hL => lv_sipush hx hb hd hE.2 (kk H locs lsA hR hL)
theorem z_lconst (C : zX ω mi) {k : Fin 2} {ix iy iz alt : Nat} {ps : List Nat} (ht : zat mi pc = some (.lconst k, (pc, 1, ix, iy, iz), alt, ps)) (kk : ZG ω mi (pc + 1) ls (zj (Int64.ofInt (Int.ofNat k.val)) :: st) h a b) : ZG ω mi pc ls st h a b := by
  obtain ⟨hd, hw, hE⟩ := zok C ht
  obtain ⟨⟨hx, hb, hml, hown, hnm⟩, hts, ⟨hWd, hX, hbl, hs0⟩, hi, hRf, hRl⟩ := C
  refine fun H locs lsA hR hL => lv_lconst hx hb hd (v := Int64.ofInt (Int.ofNat k.val)) ?_ (kk H locs lsA hR hL)
  rcases xfin2 k with rfl | rfl <;> rfl
theorem z_dconst0 (C : zX ω mi)  {ix iy iz alt : Nat} {ps : List Nat} (ht : zat mi pc = some (.dconst 0, (pc, 1, ix, iy, iz), alt, ps)) (kk : ZG ω mi (pc + 1) ls (zd FP.dconst0 :: st) h a b) : ZG ω mi pc ls st h a b := by
  obtain ⟨hd, hw, hE⟩ := zok C ht
  obtain ⟨⟨hx, hb, hml, hown, hnm⟩, hts, ⟨hWd, hX, hbl, hs0⟩, hi, hRf, hRl⟩ := C
  exact fun H locs lsA hR hL => lv_dconst0 hx hb hd (kk H locs lsA hR hL)
theorem z_dconst1 (C : zX ω mi)  {ix iy iz alt : Nat} {ps : List Nat} (ht : zat mi pc = some (.dconst 1, (pc, 1, ix, iy, iz), alt, ps)) (kk : ZG ω mi (pc + 1) ls (zd FP.dconst1 :: st) h a b) : ZG ω mi pc ls st h a b := by
  obtain ⟨hd, hw, hE⟩ := zok C ht
  obtain ⟨⟨hx, hb, hml, hown, hnm⟩, hts, ⟨hWd, hX, hbl, hs0⟩, hi, hRf, hRl⟩ := C
  exact fun H locs lsA hR hL => lv_dconst1 hx hb hd (kk H locs lsA hR hL)
theorem z_null (C : zX ω mi)  {ix iy iz alt : Nat} {ps : List Nat} (ht : zat mi pc = some (.aconst_null, (pc, 1, ix, iy, iz), alt, ps)) (kk : ZG ω mi (pc + 1) ls (zr none :: st) h a b) : ZG ω mi pc ls st h a b := by
  obtain ⟨hd, hw, hE⟩ := zok C ht
  obtain ⟨⟨hx, hb, hml, hown, hnm⟩, hts, ⟨hWd, hX, hbl, hs0⟩, hi, hRf, hRl⟩ := C
  exact fun H locs lsA hR hL => lv_null hx hb hd (kk H locs lsA hR hL)
theorem z_iload (C : zX ω mi) {i : Nat} {x : Int32} {ix iy iz alt : Nat} {ps : List Nat} (ht : zat mi pc = some (.iload i, (pc, 2, ix, iy, iz), alt, ps)) (hm : zlook ls i = some (zi x)) (kk : ZG ω mi (pc + 2) ls (zi x :: st) h a b) : ZG ω mi pc ls st h a b := by
  obtain ⟨hd, hw, hE⟩ := zok C ht
  obtain ⟨⟨hx, hb, hml, hown, hnm⟩, hts, ⟨hWd, hX, hbl, hs0⟩, hi, hRf, hRl⟩ := C
  exact fun H locs lsA hR hL => lv_iload hx hb hd (zl_at hL hm) (kk H locs lsA hR hL)
theorem z_iloadn (C : zX ω mi) {i : Fin 4} {x : Int32} {ix iy iz alt : Nat} {ps : List Nat} (ht : zat mi pc = some (.iload_n i, (pc, 1, ix, iy, iz), alt, ps)) (hm : zlook ls i.val = some (zi x)) (kk : ZG ω mi (pc + 1) ls (zi x :: st) h a b) : ZG ω mi pc ls st h a b := by
  obtain ⟨hd, hw, hE⟩ := zok C ht
  obtain ⟨⟨hx, hb, hml, hown, hnm⟩, hts, ⟨hWd, hX, hbl, hs0⟩, hi, hRf, hRl⟩ := C
  exact fun H locs lsA hR hL => lv_iload_n hx hb hd rfl (zl_at hL hm) (kk H locs lsA hR hL)
theorem z_istore (C : zX ω mi) {i : Nat} {x : Int32} {ix iy iz alt : Nat} {ps : List Nat} (ht : zat mi pc = some (.istore i, (pc, 2, ix, iy, iz), alt, ps)) (kk : ZG ω mi (pc + 2) ((i, zi x) :: zfil i false ls) st h a b) : ZG ω mi pc ls (zi x :: st) h a b := by
  obtain ⟨hd, hw, hE⟩ := zok C ht
  obtain ⟨⟨hx, hb, hml, hown, hnm⟩, hts, ⟨hWd, hX, hbl, hs0⟩, hi, hRf, hRl⟩ := C
  simp only [xextra, Bool.and_eq_true, decide_eq_true_eq] at hE
  exact fun H locs lsA hR hL => lv_istore hx hb hd hL hE.2 rfl fun ls' h' => kk H locs ls' hR (zst1 h')
theorem z_istoren (C : zX ω mi) {i : Fin 4} {x : Int32} {ix iy iz alt : Nat} {ps : List Nat} (ht : zat mi pc = some (.istore_n i, (pc, 1, ix, iy, iz), alt, ps)) (kk : ZG ω mi (pc + 1) ((i.val, zi x) :: zfil i.val false ls) st h a b) : ZG ω mi pc ls (zi x :: st) h a b := by
  obtain ⟨hd, hw, hE⟩ := zok C ht
  obtain ⟨⟨hx, hb, hml, hown, hnm⟩, hts, ⟨hWd, hX, hbl, hs0⟩, hi, hRf, hRl⟩ := C
  simp only [xextra, Bool.and_eq_true, decide_eq_true_eq] at hE
  exact fun H locs lsA hR hL => lv_istore_n hx hb hd rfl hL hE.2 rfl fun ls' h' => kk H locs ls' hR (zst1 h')
theorem z_lload (C : zX ω mi) {i : Nat} {x : Int64} {ix iy iz alt : Nat} {ps : List Nat} (ht : zat mi pc = some (.lload i, (pc, 2, ix, iy, iz), alt, ps)) (hm : zlook ls i = some (zj x)) (kk : ZG ω mi (pc + 2) ls (zj x :: st) h a b) : ZG ω mi pc ls st h a b := by
  obtain ⟨hd, hw, hE⟩ := zok C ht
  obtain ⟨⟨hx, hb, hml, hown, hnm⟩, hts, ⟨hWd, hX, hbl, hs0⟩, hi, hRf, hRl⟩ := C
  exact fun H locs lsA hR hL => lv_lload hx hb hd (zl_at hL hm) (kk H locs lsA hR hL)
theorem z_lloadn (C : zX ω mi) {i : Fin 4} {x : Int64} {ix iy iz alt : Nat} {ps : List Nat} (ht : zat mi pc = some (.lload_n i, (pc, 1, ix, iy, iz), alt, ps)) (hm : zlook ls i.val = some (zj x)) (kk : ZG ω mi (pc + 1) ls (zj x :: st) h a b) : ZG ω mi pc ls st h a b := by
  obtain ⟨hd, hw, hE⟩ := zok C ht
  obtain ⟨⟨hx, hb, hml, hown, hnm⟩, hts, ⟨hWd, hX, hbl, hs0⟩, hi, hRf, hRl⟩ := C
  exact fun H locs lsA hR hL => lv_lload_n hx hb hd rfl (zl_at hL hm) (kk H locs lsA hR hL)
theorem z_lstore (C : zX ω mi) {i : Nat} {x : Int64} {ix iy iz alt : Nat} {ps : List Nat} (ht : zat mi pc = some (.lstore i, (pc, 2, ix, iy, iz), alt, ps)) (kk : ZG ω mi (pc + 2) ((i, zj x) :: zfil i true ls) st h a b) : ZG ω mi pc ls (zj x :: st) h a b := by
  obtain ⟨hd, hw, hE⟩ := zok C ht
  obtain ⟨⟨hx, hb, hml, hown, hnm⟩, hts, ⟨hWd, hX, hbl, hs0⟩, hi, hRf, hRl⟩ := C
  simp only [xextra, Bool.and_eq_true, decide_eq_true_eq] at hE
  exact fun H locs lsA hR hL => lv_lstore hx hb hd hL hE.2 rfl fun ls' h' => kk H locs ls' hR (zst2 h')
theorem z_lstoren (C : zX ω mi) {i : Fin 4} {x : Int64} {ix iy iz alt : Nat} {ps : List Nat} (ht : zat mi pc = some (.lstore_n i, (pc, 1, ix, iy, iz), alt, ps)) (kk : ZG ω mi (pc + 1) ((i.val, zj x) :: zfil i.val true ls) st h a b) : ZG ω mi pc ls (zj x :: st) h a b := by
  obtain ⟨hd, hw, hE⟩ := zok C ht
  obtain ⟨⟨hx, hb, hml, hown, hnm⟩, hts, ⟨hWd, hX, hbl, hs0⟩, hi, hRf, hRl⟩ := C
  simp only [xextra, Bool.and_eq_true, decide_eq_true_eq] at hE
  exact fun H locs lsA hR hL => lv_lstore_n hx hb hd rfl hL hE.2 rfl fun ls' h' => kk H locs ls' hR (zst2 h')
theorem z_dload (C : zX ω mi) {i : Nat} {x : UInt64} {ix iy iz alt : Nat} {ps : List Nat} (ht : zat mi pc = some (.dload i, (pc, 2, ix, iy, iz), alt, ps)) (hm : zlook ls i = some (zd x)) (kk : ZG ω mi (pc + 2) ls (zd x :: st) h a b) : ZG ω mi pc ls st h a b := by
  obtain ⟨hd, hw, hE⟩ := zok C ht
  obtain ⟨⟨hx, hb, hml, hown, hnm⟩, hts, ⟨hWd, hX, hbl, hs0⟩, hi, hRf, hRl⟩ := C
  exact fun H locs lsA hR hL => lv_dload hx hb hd (zl_at hL hm) (kk H locs lsA hR hL)
theorem z_dloadn (C : zX ω mi) {i : Fin 4} {x : UInt64} {ix iy iz alt : Nat} {ps : List Nat} (ht : zat mi pc = some (.dload_n i, (pc, 1, ix, iy, iz), alt, ps)) (hm : zlook ls i.val = some (zd x)) (kk : ZG ω mi (pc + 1) ls (zd x :: st) h a b) : ZG ω mi pc ls st h a b := by
  obtain ⟨hd, hw, hE⟩ := zok C ht
  obtain ⟨⟨hx, hb, hml, hown, hnm⟩, hts, ⟨hWd, hX, hbl, hs0⟩, hi, hRf, hRl⟩ := C
  exact fun H locs lsA hR hL => lv_dload_n hx hb hd rfl (zl_at hL hm) (kk H locs lsA hR hL)
theorem z_dstore (C : zX ω mi) {i : Nat} {x : UInt64} {ix iy iz alt : Nat} {ps : List Nat} (ht : zat mi pc = some (.dstore i, (pc, 2, ix, iy, iz), alt, ps)) (kk : ZG ω mi (pc + 2) ((i, zd x) :: zfil i true ls) st h a b) : ZG ω mi pc ls (zd x :: st) h a b := by
  obtain ⟨hd, hw, hE⟩ := zok C ht
  obtain ⟨⟨hx, hb, hml, hown, hnm⟩, hts, ⟨hWd, hX, hbl, hs0⟩, hi, hRf, hRl⟩ := C
  simp only [xextra, Bool.and_eq_true, decide_eq_true_eq] at hE
  exact fun H locs lsA hR hL => lv_dstore hx hb hd hL hE.2 rfl fun ls' h' => kk H locs ls' hR (zst2 h')
theorem z_dstoren (C : zX ω mi) {i : Fin 4} {x : UInt64} {ix iy iz alt : Nat} {ps : List Nat} (ht : zat mi pc = some (.dstore_n i, (pc, 1, ix, iy, iz), alt, ps)) (kk : ZG ω mi (pc + 1) ((i.val, zd x) :: zfil i.val true ls) st h a b) : ZG ω mi pc ls (zd x :: st) h a b := by
  obtain ⟨hd, hw, hE⟩ := zok C ht
  obtain ⟨⟨hx, hb, hml, hown, hnm⟩, hts, ⟨hWd, hX, hbl, hs0⟩, hi, hRf, hRl⟩ := C
  simp only [xextra, Bool.and_eq_true, decide_eq_true_eq] at hE
  exact fun H locs lsA hR hL => lv_dstore_n hx hb hd rfl hL hE.2 rfl fun ls' h' => kk H locs ls' hR (zst2 h')
theorem z_aload (C : zX ω mi) {i : Nat} {q : Option Nat} {ix iy iz alt : Nat} {ps : List Nat} (ht : zat mi pc = some (.aload i, (pc, 2, ix, iy, iz), alt, ps)) (hm : zlook ls i = some (zr q)) (kk : ZG ω mi (pc + 2) ls (zr q :: st) h a b) : ZG ω mi pc ls st h a b := by
  obtain ⟨hd, hw, hE⟩ := zok C ht
  obtain ⟨⟨hx, hb, hml, hown, hnm⟩, hts, ⟨hWd, hX, hbl, hs0⟩, hi, hRf, hRl⟩ := C
  intro H locs lsA hR hL
  cases q with
  | none => exact lv_aloadN hx hb hd (zl_at hL hm) (kk H locs lsA hR hL)
  | some r => exact lv_aload hx hb hd (zl_at hL hm) (kk H locs lsA hR hL)
theorem z_aloadn (C : zX ω mi) {i : Fin 4} {q : Option Nat} {ix iy iz alt : Nat} {ps : List Nat} (ht : zat mi pc = some (.aload_n i, (pc, 1, ix, iy, iz), alt, ps)) (hm : zlook ls i.val = some (zr q)) (kk : ZG ω mi (pc + 1) ls (zr q :: st) h a b) : ZG ω mi pc ls st h a b := by
  obtain ⟨hd, hw, hE⟩ := zok C ht
  obtain ⟨⟨hx, hb, hml, hown, hnm⟩, hts, ⟨hWd, hX, hbl, hs0⟩, hi, hRf, hRl⟩ := C
  intro H locs lsA hR hL
  cases q with
  | none => exact lv_aload_nN hx hb hd rfl (zl_at hL hm) (kk H locs lsA hR hL)
  | some r => exact lv_aload_n hx hb hd rfl (zl_at hL hm) (kk H locs lsA hR hL)
theorem z_sload (C : zX ω mi) {i : Nat} {ix iy iz alt : Nat} {ps : List Nat} (ht : zat mi pc = some (.aload i, (pc, 2, ix, iy, iz), alt, ps)) (hm : zlook ls i = some zs) (kk : ZG ω mi (pc + 2) ls (zs :: st) h a b) : ZG ω mi pc ls st h a b := by
  obtain ⟨hd, hw, hE⟩ := zok C ht
  obtain ⟨⟨hx, hb, hml, hown, hnm⟩, hts, ⟨hWd, hX, hbl, hs0⟩, hi, hRf, hRl⟩ := C
  exact fun H locs lsA hR hL => lv_aload hx hb hd (zl_at hL hm) (kk H locs lsA hR hL)
theorem z_sloadn (C : zX ω mi) {i : Fin 4} {ix iy iz alt : Nat} {ps : List Nat} (ht : zat mi pc = some (.aload_n i, (pc, 1, ix, iy, iz), alt, ps)) (hm : zlook ls i.val = some zs) (kk : ZG ω mi (pc + 1) ls (zs :: st) h a b) : ZG ω mi pc ls st h a b := by
  obtain ⟨hd, hw, hE⟩ := zok C ht
  obtain ⟨⟨hx, hb, hml, hown, hnm⟩, hts, ⟨hWd, hX, hbl, hs0⟩, hi, hRf, hRl⟩ := C
  exact fun H locs lsA hR hL => lv_aload_n hx hb hd rfl (zl_at hL hm) (kk H locs lsA hR hL)
theorem z_astore (C : zX ω mi) {i : Nat} {q : Option Nat} {ix iy iz alt : Nat} {ps : List Nat} (ht : zat mi pc = some (.astore i, (pc, 2, ix, iy, iz), alt, ps)) (kk : ZG ω mi (pc + 2) ((i, zr q) :: zfil i false ls) st h a b) : ZG ω mi pc ls (zr q :: st) h a b := by
  obtain ⟨hd, hw, hE⟩ := zok C ht
  obtain ⟨⟨hx, hb, hml, hown, hnm⟩, hts, ⟨hWd, hX, hbl, hs0⟩, hi, hRf, hRl⟩ := C
  simp only [xextra, Bool.and_eq_true, decide_eq_true_eq] at hE
  intro H locs lsA hR hL
  cases q with
  | none => exact lv_astoreN hx hb hd hL hE.2 rfl fun ls' h' => kk H locs ls' hR (zst1 h')
  | some r => exact lv_astore hx hb hd hL hE.2 rfl fun ls' h' => kk H locs ls' hR (zst1 h')
theorem z_astoren (C : zX ω mi) {i : Fin 4} {q : Option Nat} {ix iy iz alt : Nat} {ps : List Nat} (ht : zat mi pc = some (.astore_n i, (pc, 1, ix, iy, iz), alt, ps)) (kk : ZG ω mi (pc + 1) ((i.val, zr q) :: zfil i.val false ls) st h a b) : ZG ω mi pc ls (zr q :: st) h a b := by
  obtain ⟨hd, hw, hE⟩ := zok C ht
  obtain ⟨⟨hx, hb, hml, hown, hnm⟩, hts, ⟨hWd, hX, hbl, hs0⟩, hi, hRf, hRl⟩ := C
  simp only [xextra, Bool.and_eq_true, decide_eq_true_eq] at hE
  intro H locs lsA hR hL
  cases q with
  | none => exact lv_astore_nN hx hb hd rfl hL hE.2 rfl fun ls' h' => kk H locs ls' hR (zst1 h')
  | some r => exact lv_astore_n hx hb hd rfl hL hE.2 rfl fun ls' h' => kk H locs ls' hR (zst1 h')
theorem z_iinc (C : zX ω mi) {i : Nat} {k : Int} {x : Int32} {ix iy iz alt : Nat} {ps : List Nat} (ht : zat mi pc = some (.iinc i k, (pc, 3, ix, iy, iz), alt, ps)) (hm : zlook ls i = some (zi x)) (kk : ZG ω mi (pc + 3) ((i, zi (x + Int32.ofInt k)) :: zfil i false ls) st h a b) : ZG ω mi pc ls st h a b := by
  obtain ⟨hd, hw, hE⟩ := zok C ht
  obtain ⟨⟨hx, hb, hml, hown, hnm⟩, hts, ⟨hWd, hX, hbl, hs0⟩, hi, hRf, hRl⟩ := C
  simp only [xextra, Bool.and_eq_true, decide_eq_true_eq] at hE
  intro H locs lsA hR hL
  obtain ⟨q, hq⟩ := List.getElem?_of_mem (List.mem_map.mpr ⟨_, zlook_mem hm, rfl⟩ : (i, zD (kρ (oK ω)) (zi x)) ∈ zM (kρ (oK ω)) ls)
  exact lv_iinc hx hb hd hL hq rfl hE.2 rfl fun ls' h' => kk H locs ls' hR (zst1 h')
theorem z_iadd (C : zX ω mi) {x y : Int32} {ix iy iz alt : Nat} {ps : List Nat} (ht : zat mi pc = some (.iadd, (pc, 1, ix, iy, iz), alt, ps)) (kk : ZG ω mi (pc + 1) ls (zi (x + y) :: st) h a b) : ZG ω mi pc ls (zi y :: zi x :: st) h a b := by
  obtain ⟨hd, hw, hE⟩ := zok C ht
  obtain ⟨⟨hx, hb, hml, hown, hnm⟩, hts, ⟨hWd, hX, hbl, hs0⟩, hi, hRf, hRl⟩ := C
  exact fun H locs lsA hR hL => lv_iadd hx hb hd (kk H locs lsA hR hL)
theorem z_isub (C : zX ω mi) {x y : Int32} {ix iy iz alt : Nat} {ps : List Nat} (ht : zat mi pc = some (.isub, (pc, 1, ix, iy, iz), alt, ps)) (kk : ZG ω mi (pc + 1) ls (zi (x - y) :: st) h a b) : ZG ω mi pc ls (zi y :: zi x :: st) h a b := by
  obtain ⟨hd, hw, hE⟩ := zok C ht
  obtain ⟨⟨hx, hb, hml, hown, hnm⟩, hts, ⟨hWd, hX, hbl, hs0⟩, hi, hRf, hRl⟩ := C
  exact fun H locs lsA hR hL => lv_isub hx hb hd (kk H locs lsA hR hL)
theorem z_imul (C : zX ω mi) {x y : Int32} {ix iy iz alt : Nat} {ps : List Nat} (ht : zat mi pc = some (.imul, (pc, 1, ix, iy, iz), alt, ps)) (kk : ZG ω mi (pc + 1) ls (zi (x * y) :: st) h a b) : ZG ω mi pc ls (zi y :: zi x :: st) h a b := by
  obtain ⟨hd, hw, hE⟩ := zok C ht
  obtain ⟨⟨hx, hb, hml, hown, hnm⟩, hts, ⟨hWd, hX, hbl, hs0⟩, hi, hRf, hRl⟩ := C
  exact fun H locs lsA hR hL => lv_imul hx hb hd (kk H locs lsA hR hL)
theorem z_iand (C : zX ω mi) {x y : Int32} {ix iy iz alt : Nat} {ps : List Nat} (ht : zat mi pc = some (.iand, (pc, 1, ix, iy, iz), alt, ps)) (kk : ZG ω mi (pc + 1) ls (zi (x &&& y) :: st) h a b) : ZG ω mi pc ls (zi y :: zi x :: st) h a b := by
  obtain ⟨hd, hw, hE⟩ := zok C ht
  obtain ⟨⟨hx, hb, hml, hown, hnm⟩, hts, ⟨hWd, hX, hbl, hs0⟩, hi, hRf, hRl⟩ := C
  exact fun H locs lsA hR hL => lv_iand hx hb hd (kk H locs lsA hR hL)
theorem z_ior (C : zX ω mi) {x y : Int32} {ix iy iz alt : Nat} {ps : List Nat} (ht : zat mi pc = some (.ior, (pc, 1, ix, iy, iz), alt, ps)) (kk : ZG ω mi (pc + 1) ls (zi (x ||| y) :: st) h a b) : ZG ω mi pc ls (zi y :: zi x :: st) h a b := by
  obtain ⟨hd, hw, hE⟩ := zok C ht
  obtain ⟨⟨hx, hb, hml, hown, hnm⟩, hts, ⟨hWd, hX, hbl, hs0⟩, hi, hRf, hRl⟩ := C
  exact fun H locs lsA hR hL => lv_ior hx hb hd (kk H locs lsA hR hL)
theorem z_ixor (C : zX ω mi) {x y : Int32} {ix iy iz alt : Nat} {ps : List Nat} (ht : zat mi pc = some (.ixor, (pc, 1, ix, iy, iz), alt, ps)) (kk : ZG ω mi (pc + 1) ls (zi (x ^^^ y) :: st) h a b) : ZG ω mi pc ls (zi y :: zi x :: st) h a b := by
  obtain ⟨hd, hw, hE⟩ := zok C ht
  obtain ⟨⟨hx, hb, hml, hown, hnm⟩, hts, ⟨hWd, hX, hbl, hs0⟩, hi, hRf, hRl⟩ := C
  exact fun H locs lsA hR hL => lv_ixor hx hb hd (kk H locs lsA hR hL)
theorem z_ladd (C : zX ω mi) {x y : Int64} {ix iy iz alt : Nat} {ps : List Nat} (ht : zat mi pc = some (.ladd, (pc, 1, ix, iy, iz), alt, ps)) (kk : ZG ω mi (pc + 1) ls (zj (x + y) :: st) h a b) : ZG ω mi pc ls (zj y :: zj x :: st) h a b := by
  obtain ⟨hd, hw, hE⟩ := zok C ht
  obtain ⟨⟨hx, hb, hml, hown, hnm⟩, hts, ⟨hWd, hX, hbl, hs0⟩, hi, hRf, hRl⟩ := C
  exact fun H locs lsA hR hL => lv_ladd hx hb hd (kk H locs lsA hR hL)
theorem z_lsub (C : zX ω mi) {x y : Int64} {ix iy iz alt : Nat} {ps : List Nat} (ht : zat mi pc = some (.lsub, (pc, 1, ix, iy, iz), alt, ps)) (kk : ZG ω mi (pc + 1) ls (zj (x - y) :: st) h a b) : ZG ω mi pc ls (zj y :: zj x :: st) h a b := by
  obtain ⟨hd, hw, hE⟩ := zok C ht
  obtain ⟨⟨hx, hb, hml, hown, hnm⟩, hts, ⟨hWd, hX, hbl, hs0⟩, hi, hRf, hRl⟩ := C
  exact fun H locs lsA hR hL => lv_lsub hx hb hd (kk H locs lsA hR hL)
theorem z_lmul (C : zX ω mi) {x y : Int64} {ix iy iz alt : Nat} {ps : List Nat} (ht : zat mi pc = some (.lmul, (pc, 1, ix, iy, iz), alt, ps)) (kk : ZG ω mi (pc + 1) ls (zj (x * y) :: st) h a b) : ZG ω mi pc ls (zj y :: zj x :: st) h a b := by
  obtain ⟨hd, hw, hE⟩ := zok C ht
  obtain ⟨⟨hx, hb, hml, hown, hnm⟩, hts, ⟨hWd, hX, hbl, hs0⟩, hi, hRf, hRl⟩ := C
  exact fun H locs lsA hR hL => lv_lmul hx hb hd (kk H locs lsA hR hL)
theorem z_idiv (C : zX ω mi) {x y : Int32} {ix iy iz alt : Nat} {ps : List Nat} (ht : zat mi pc = some (.idiv, (pc, 1, ix, iy, iz), alt, ps)) (hne : ¬ y = 0) (kk : ZG ω mi (pc + 1) ls (zi (x / y) :: st) h a b) : ZG ω mi pc ls (zi y :: zi x :: st) h a b := by
  obtain ⟨hd, hw, hE⟩ := zok C ht
  obtain ⟨⟨hx, hb, hml, hown, hnm⟩, hts, ⟨hWd, hX, hbl, hs0⟩, hi, hRf, hRl⟩ := C
  exact fun H locs lsA hR hL => lv_idiv hx hb hd hne (kk H locs lsA hR hL)
theorem z_irem (C : zX ω mi) {x y : Int32} {ix iy iz alt : Nat} {ps : List Nat} (ht : zat mi pc = some (.irem, (pc, 1, ix, iy, iz), alt, ps)) (hne : ¬ y = 0) (kk : ZG ω mi (pc + 1) ls (zi (x - x / y * y) :: st) h a b) : ZG ω mi pc ls (zi y :: zi x :: st) h a b := by
  obtain ⟨hd, hw, hE⟩ := zok C ht
  obtain ⟨⟨hx, hb, hml, hown, hnm⟩, hts, ⟨hWd, hX, hbl, hs0⟩, hi, hRf, hRl⟩ := C
  exact fun H locs lsA hR hL => lv_irem hx hb hd hne (kk H locs lsA hR hL)
theorem z_ldiv (C : zX ω mi) {x y : Int64} {ix iy iz alt : Nat} {ps : List Nat} (ht : zat mi pc = some (.ldiv, (pc, 1, ix, iy, iz), alt, ps)) (hne : ¬ y = 0) (kk : ZG ω mi (pc + 1) ls (zj (x / y) :: st) h a b) : ZG ω mi pc ls (zj y :: zj x :: st) h a b := by
  obtain ⟨hd, hw, hE⟩ := zok C ht
  obtain ⟨⟨hx, hb, hml, hown, hnm⟩, hts, ⟨hWd, hX, hbl, hs0⟩, hi, hRf, hRl⟩ := C
  exact fun H locs lsA hR hL => lv_ldiv hx hb hd hne (kk H locs lsA hR hL)
theorem z_lcmp (C : zX ω mi) {x y : Int64} {ix iy iz alt : Nat} {ps : List Nat} (ht : zat mi pc = some (.lcmp, (pc, 1, ix, iy, iz), alt, ps)) (kk : ZG ω mi (pc + 1) ls (zi (lg_cmp x y) :: st) h a b) : ZG ω mi pc ls (zj y :: zj x :: st) h a b := by
  obtain ⟨hd, hw, hE⟩ := zok C ht
  obtain ⟨⟨hx, hb, hml, hown, hnm⟩, hts, ⟨hWd, hX, hbl, hs0⟩, hi, hRf, hRl⟩ := C
  exact fun H locs lsA hR hL => W.lcmp hx hb hd (kk H locs lsA hR hL)
theorem z_dadd (C : zX ω mi) {x y : UInt64} {ix iy iz alt : Nat} {ps : List Nat} (ht : zat mi pc = some (.dadd, (pc, 1, ix, iy, iz), alt, ps)) (hne : vf_n64 (FP.dadd x y)) (kk : ZG ω mi (pc + 1) ls (zd (FP.dadd x y) :: st) h a b) : ZG ω mi pc ls (zd y :: zd x :: st) h a b := by
  obtain ⟨hd, hw, hE⟩ := zok C ht
  obtain ⟨⟨hx, hb, hml, hown, hnm⟩, hts, ⟨hWd, hX, hbl, hs0⟩, hi, hRf, hRl⟩ := C
  exact fun H locs lsA hR hL => lv_dadd hx hb hd hne (kk H locs lsA hR hL)
theorem z_dsub (C : zX ω mi) {x y : UInt64} {ix iy iz alt : Nat} {ps : List Nat} (ht : zat mi pc = some (.dsub, (pc, 1, ix, iy, iz), alt, ps)) (hne : vf_n64 (FP.dsub x y)) (kk : ZG ω mi (pc + 1) ls (zd (FP.dsub x y) :: st) h a b) : ZG ω mi pc ls (zd y :: zd x :: st) h a b := by
  obtain ⟨hd, hw, hE⟩ := zok C ht
  obtain ⟨⟨hx, hb, hml, hown, hnm⟩, hts, ⟨hWd, hX, hbl, hs0⟩, hi, hRf, hRl⟩ := C
  exact fun H locs lsA hR hL => lv_dsub hx hb hd hne (kk H locs lsA hR hL)
theorem z_dmul (C : zX ω mi) {x y : UInt64} {ix iy iz alt : Nat} {ps : List Nat} (ht : zat mi pc = some (.dmul, (pc, 1, ix, iy, iz), alt, ps)) (hne : vf_n64 (FP.dmul x y)) (kk : ZG ω mi (pc + 1) ls (zd (FP.dmul x y) :: st) h a b) : ZG ω mi pc ls (zd y :: zd x :: st) h a b := by
  obtain ⟨hd, hw, hE⟩ := zok C ht
  obtain ⟨⟨hx, hb, hml, hown, hnm⟩, hts, ⟨hWd, hX, hbl, hs0⟩, hi, hRf, hRl⟩ := C
  exact fun H locs lsA hR hL => lv_dmul hx hb hd hne (kk H locs lsA hR hL)
theorem z_ddiv (C : zX ω mi) {x y : UInt64} {ix iy iz alt : Nat} {ps : List Nat} (ht : zat mi pc = some (.ddiv, (pc, 1, ix, iy, iz), alt, ps)) (hne : vf_n64 (FP.ddiv x y)) (kk : ZG ω mi (pc + 1) ls (zd (FP.ddiv x y) :: st) h a b) : ZG ω mi pc ls (zd y :: zd x :: st) h a b := by
  obtain ⟨hd, hw, hE⟩ := zok C ht
  obtain ⟨⟨hx, hb, hml, hown, hnm⟩, hts, ⟨hWd, hX, hbl, hs0⟩, hi, hRf, hRl⟩ := C
  exact fun H locs lsA hR hL => lv_ddiv hx hb hd hne (kk H locs lsA hR hL)
theorem z_dneg (C : zX ω mi) {x : UInt64} {ix iy iz alt : Nat} {ps : List Nat} (ht : zat mi pc = some (.dneg, (pc, 1, ix, iy, iz), alt, ps)) (kk : ZG ω mi (pc + 1) ls (zd (FP.dneg x) :: st) h a b) : ZG ω mi pc ls (zd x :: st) h a b := by
  obtain ⟨hd, hw, hE⟩ := zok C ht
  obtain ⟨⟨hx, hb, hml, hown, hnm⟩, hts, ⟨hWd, hX, hbl, hs0⟩, hi, hRf, hRl⟩ := C
  exact fun H locs lsA hR hL => lv_dneg hx hb hd (kk H locs lsA hR hL)
theorem z_dcmp (C : zX ω mi) {x y : UInt64} {op : CmpOp} {ix iy iz alt : Nat} {ps : List Nat} (ht : zat mi pc = some (.dcmp op, (pc, 1, ix, iy, iz), alt, ps)) (kk : ZG ω mi (pc + 1) ls (zi (Op.cmpValue (FP.dcmp x y) op) :: st) h a b) : ZG ω mi pc ls (zd y :: zd x :: st) h a b := by
  obtain ⟨hd, hw, hE⟩ := zok C ht
  obtain ⟨⟨hx, hb, hml, hown, hnm⟩, hts, ⟨hWd, hX, hbl, hs0⟩, hi, hRf, hRl⟩ := C
  exact fun H locs lsA hR hL => lv_dcmp hx hb hd (kk H locs lsA hR hL)
theorem z_i2l (C : zX ω mi) {x : Int32} {ix iy iz alt : Nat} {ps : List Nat} (ht : zat mi pc = some (.i2l, (pc, 1, ix, iy, iz), alt, ps)) (kk : ZG ω mi (pc + 1) ls (zj x.toInt64 :: st) h a b) : ZG ω mi pc ls (zi x :: st) h a b := by
  obtain ⟨hd, hw, hE⟩ := zok C ht
  obtain ⟨⟨hx, hb, hml, hown, hnm⟩, hts, ⟨hWd, hX, hbl, hs0⟩, hi, hRf, hRl⟩ := C
  exact fun H locs lsA hR hL => lv_i2l hx hb hd rfl (kk H locs lsA hR hL)
theorem z_l2i (C : zX ω mi) {x : Int64} {ix iy iz alt : Nat} {ps : List Nat} (ht : zat mi pc = some (.l2i, (pc, 1, ix, iy, iz), alt, ps)) (kk : ZG ω mi (pc + 1) ls (zi x.toInt32 :: st) h a b) : ZG ω mi pc ls (zj x :: st) h a b := by
  obtain ⟨hd, hw, hE⟩ := zok C ht
  obtain ⟨⟨hx, hb, hml, hown, hnm⟩, hts, ⟨hWd, hX, hbl, hs0⟩, hi, hRf, hRl⟩ := C
  exact fun H locs lsA hR hL => lv_l2i hx hb hd rfl (kk H locs lsA hR hL)
theorem z_i2d (C : zX ω mi) {x : Int32} {ix iy iz alt : Nat} {ps : List Nat} (ht : zat mi pc = some (.i2d, (pc, 1, ix, iy, iz), alt, ps)) (kk : ZG ω mi (pc + 1) ls (zd (FP.i2d x) :: st) h a b) : ZG ω mi pc ls (zi x :: st) h a b := by
  obtain ⟨hd, hw, hE⟩ := zok C ht
  obtain ⟨⟨hx, hb, hml, hown, hnm⟩, hts, ⟨hWd, hX, hbl, hs0⟩, hi, hRf, hRl⟩ := C
  exact fun H locs lsA hR hL => lv_i2d hx hb hd (kk H locs lsA hR hL)
theorem z_l2d (C : zX ω mi) {x : Int64} {ix iy iz alt : Nat} {ps : List Nat} (ht : zat mi pc = some (.l2d, (pc, 1, ix, iy, iz), alt, ps)) (kk : ZG ω mi (pc + 1) ls (zd (FP.l2d x) :: st) h a b) : ZG ω mi pc ls (zj x :: st) h a b := by
  obtain ⟨hd, hw, hE⟩ := zok C ht
  obtain ⟨⟨hx, hb, hml, hown, hnm⟩, hts, ⟨hWd, hX, hbl, hs0⟩, hi, hRf, hRl⟩ := C
  exact fun H locs lsA hR hL => lv_l2d hx hb hd (kk H locs lsA hR hL)
theorem z_d2l (C : zX ω mi) {x : UInt64} {ix iy iz alt : Nat} {ps : List Nat} (ht : zat mi pc = some (.d2l, (pc, 1, ix, iy, iz), alt, ps)) (kk : ZG ω mi (pc + 1) ls (zj (FP.d2l x) :: st) h a b) : ZG ω mi pc ls (zd x :: st) h a b := by
  obtain ⟨hd, hw, hE⟩ := zok C ht
  obtain ⟨⟨hx, hb, hml, hown, hnm⟩, hts, ⟨hWd, hX, hbl, hs0⟩, hi, hRf, hRl⟩ := C
  exact fun H locs lsA hR hL => lv_d2l hx hb hd (kk H locs lsA hR hL)
theorem z_d2i (C : zX ω mi) {x : UInt64} {ix iy iz alt : Nat} {ps : List Nat} (ht : zat mi pc = some (.d2i, (pc, 1, ix, iy, iz), alt, ps)) (kk : ZG ω mi (pc + 1) ls (zi (FP.d2i x) :: st) h a b) : ZG ω mi pc ls (zd x :: st) h a b := by
  obtain ⟨hd, hw, hE⟩ := zok C ht
  obtain ⟨⟨hx, hb, hml, hown, hnm⟩, hts, ⟨hWd, hX, hbl, hs0⟩, hi, hRf, hRl⟩ := C
  exact fun H locs lsA hR hL => lv_d2i hx hb hd (kk H locs lsA hR hL)
theorem z_dup (C : zX ω mi) {v : zV} {ix iy iz alt : Nat} {ps : List Nat} (ht : zat mi pc = some (.dup, (pc, 1, ix, iy, iz), alt, ps)) (h2 : z2 v = false) (kk : ZG ω mi (pc + 1) ls (v :: v :: st) h a b) : ZG ω mi pc ls (v :: st) h a b := by
  obtain ⟨hd, hw, hE⟩ := zok C ht
  obtain ⟨⟨hx, hb, hml, hown, hnm⟩, hts, ⟨hWd, hX, hbl, hs0⟩, hi, hRf, hRl⟩ := C
  exact fun H locs lsA hR hL => lv_dup hx hb hd (zcat1 h2) (kk H locs lsA hR hL)
theorem z_dup2 (C : zX ω mi) {v w : zV} {ix iy iz alt : Nat} {ps : List Nat} (ht : zat mi pc = some (.dup2, (pc, 1, ix, iy, iz), alt, ps)) (h2 : z2 v = false) (h3 : z2 w = false) (kk : ZG ω mi (pc + 1) ls (v :: w :: v :: w :: st) h a b) : ZG ω mi pc ls (v :: w :: st) h a b := by
  obtain ⟨hd, hw, hE⟩ := zok C ht
  obtain ⟨⟨hx, hb, hml, hown, hnm⟩, hts, ⟨hWd, hX, hbl, hs0⟩, hi, hRf, hRl⟩ := C
  exact fun H locs lsA hR hL => lv_dup2_11 hx hb hd (zcat1 h2) (zcat1 h3) (kk H locs lsA hR hL)
theorem z_ishr (C : zX ω mi) {x y : Int32} {ix iy iz alt : Nat} {ps : List Nat} (ht : zat mi pc = some (.ishr, (pc, 1, ix, iy, iz), alt, ps)) (kk : ZG ω mi (pc + 1) ls (zi (x >>> (y &&& 31)) :: st) h a b) : ZG ω mi pc ls (zi y :: zi x :: st) h a b := by
  obtain ⟨hd, hw, hE⟩ := zok C ht
  obtain ⟨⟨hx, hb, hml, hown, hnm⟩, hts, ⟨hWd, hX, hbl, hs0⟩, hi, hRf, hRl⟩ := C
  exact fun H locs lsA hR hL => lv_ishr hx hb hd (kk H locs lsA hR hL)
theorem z_pop (C : zX ω mi) {v : zV} {ix iy iz alt : Nat} {ps : List Nat} (ht : zat mi pc = some (.pop, (pc, 1, ix, iy, iz), alt, ps)) (h2 : z2 v = false) (kk : ZG ω mi (pc + 1) ls st h a b) : ZG ω mi pc ls (v :: st) h a b := by
  obtain ⟨hd, hw, hE⟩ := zok C ht
  obtain ⟨⟨hx, hb, hml, hown, hnm⟩, hts, ⟨hWd, hX, hbl, hs0⟩, hi, hRf, hRl⟩ := C
  exact fun H locs lsA hR hL => lv_pop hx hb hd (zcat1 h2) (kk H locs lsA hR hL)
theorem z_goto (C : zX ω mi) {off : Int} {ix iy iz alt : Nat} {ps : List Nat} (ht : zat mi pc = some (.goto off, (pc, 3, ix, iy, iz), alt, ps)) (kk : ZG ω mi ix ls st h a b) : ZG ω mi pc ls st h a b := by
  obtain ⟨hd, hw, hE⟩ := zok C ht
  obtain ⟨⟨hx, hb, hml, hown, hnm⟩, hts, ⟨hWd, hX, hbl, hs0⟩, hi, hRf, hRl⟩ := C
  simp only [xextra, Bool.and_eq_true, decide_eq_true_eq] at hE
  exact fun H locs lsA hR hL => lv_goto hx hb hd hE.2 (kk H locs lsA hR hL)
theorem z_if (C : zX ω mi) {k : ClassFile.Cond} {off : Int} {x : Int32} {ix iy iz alt : Nat} {ps : List Nat} (ht : zat mi pc = some (.ifCond k off, (pc, 3, ix, iy, iz), alt, ps)) (kt : xCmp k x 0 → ZG ω mi ix ls st h a b) (kf : ¬ xCmp k x 0 → ZG ω mi (pc + 3) ls st h a b) : ZG ω mi pc ls (zi x :: st) h a b := by
  obtain ⟨hd, hw, hE⟩ := zok C ht
  obtain ⟨⟨hx, hb, hml, hown, hnm⟩, hts, ⟨hWd, hX, hbl, hs0⟩, hi, hRf, hRl⟩ := C
  simp only [xextra, Bool.and_eq_true, decide_eq_true_eq] at hE
  intro H locs lsA hR hL
  cases k with
  | eq => exact lv_if_eq hx hb hd hE.2 (fun q => kt q H locs lsA hR hL) (fun q => kf q H locs lsA hR hL)
  | ne => exact lv_if_ne hx hb hd hE.2 (fun q => kt q H locs lsA hR hL) (fun q => kf (fun q2 => q2 q) H locs lsA hR hL)
  | lt => exact lv_if_lt hx hb hd hE.2 (fun q => kt q H locs lsA hR hL) (fun q => kf q H locs lsA hR hL)
  | ge => exact lv_if_ge hx hb hd hE.2 (fun q => kt q H locs lsA hR hL) (fun q => kf q H locs lsA hR hL)
  | gt => exact lv_if_gt hx hb hd hE.2 (fun q => kt q H locs lsA hR hL) (fun q => kf q H locs lsA hR hL)
  | le => exact lv_if_le hx hb hd hE.2 (fun q => kt q H locs lsA hR hL) (fun q => kf q H locs lsA hR hL)
theorem z_icmp (C : zX ω mi) {k : ClassFile.Cond} {off : Int} {x y : Int32} {ix iy iz alt : Nat} {ps : List Nat} (ht : zat mi pc = some (.if_icmp k off, (pc, 3, ix, iy, iz), alt, ps)) (kt : xCmp k x y → ZG ω mi ix ls st h a b) (kf : ¬ xCmp k x y → ZG ω mi (pc + 3) ls st h a b) : ZG ω mi pc ls (zi y :: zi x :: st) h a b := by
  obtain ⟨hd, hw, hE⟩ := zok C ht
  obtain ⟨⟨hx, hb, hml, hown, hnm⟩, hts, ⟨hWd, hX, hbl, hs0⟩, hi, hRf, hRl⟩ := C
  simp only [xextra, Bool.and_eq_true, decide_eq_true_eq] at hE
  intro H locs lsA hR hL
  cases k with
  | eq => exact lv_icmp_eq hx hb hd hE.2 (fun q => kt q H locs lsA hR hL) (fun q => kf q H locs lsA hR hL)
  | ne => exact lv_icmp_ne hx hb hd hE.2 (fun q => kt q H locs lsA hR hL) (fun q => kf (fun q2 => q2 q) H locs lsA hR hL)
  | lt => exact lv_icmp_lt hx hb hd hE.2 (fun q => kt q H locs lsA hR hL) (fun q => kf q H locs lsA hR hL)
  | ge => exact lv_icmp_ge hx hb hd hE.2 (fun q => kt q H locs lsA hR hL) (fun q => kf q H locs lsA hR hL)
  | gt => exact lv_icmp_gt hx hb hd hE.2 (fun q => kt q H locs lsA hR hL) (fun q => kf q H locs lsA hR hL)
  | le => exact lv_icmp_le hx hb hd hE.2 (fun q => kt q H locs lsA hR hL) (fun q => kf q H locs lsA hR hL)
theorem z_ifnull (C : zX ω mi) {off : Int} {q : Option Nat} {ix iy iz alt : Nat} {ps : List Nat} (ht : zat mi pc = some (.ifnull off, (pc, 3, ix, iy, iz), alt, ps)) (kt : q = none → ZG ω mi ix ls st h a b) (kf : ∀ r, q = some r → ZG ω mi (pc + 3) ls st h a b) : ZG ω mi pc ls (zr q :: st) h a b := by
  obtain ⟨hd, hw, hE⟩ := zok C ht
  obtain ⟨⟨hx, hb, hml, hown, hnm⟩, hts, ⟨hWd, hX, hbl, hs0⟩, hi, hRf, hRl⟩ := C
  simp only [xextra, Bool.and_eq_true, decide_eq_true_eq] at hE
  intro H locs lsA hR hL
  cases q with
  | none => exact lv_ifnullN hx hb hd hE.2 (kt rfl H locs lsA hR hL)
  | some r => exact lv_ifnull hx hb hd (kf r rfl H locs lsA hR hL)
theorem z_ifnonnull (C : zX ω mi) {off : Int} {q : Option Nat} {ix iy iz alt : Nat} {ps : List Nat} (ht : zat mi pc = some (.ifnonnull off, (pc, 3, ix, iy, iz), alt, ps)) (kt : q = none → ZG ω mi (pc + 3) ls st h a b) (kf : ∀ r, q = some r → ZG ω mi ix ls st h a b) : ZG ω mi pc ls (zr q :: st) h a b := by
  obtain ⟨hd, hw, hE⟩ := zok C ht
  obtain ⟨⟨hx, hb, hml, hown, hnm⟩, hts, ⟨hWd, hX, hbl, hs0⟩, hi, hRf, hRl⟩ := C
  simp only [xextra, Bool.and_eq_true, decide_eq_true_eq] at hE
  intro H locs lsA hR hL
  cases q with
  | none => exact lv_ifnonnullN hx hb hd (kt rfl H locs lsA hR hL)
  | some r => exact lv_ifnonnull hx hb hd hE.2 (kf r rfl H locs lsA hR hL)
theorem z_tsOut (C : zX ω mi) {dflt lo hi : Int} {offs : Array Int} {len : Nat} {x : Int32} {ix iy iz alt : Nat} {ps : List Nat} (ht : zat mi pc = some (.tableswitch dflt lo hi offs, (pc, len, ix, iy, iz), alt, ps)) (hq : x.toInt < lo ∨ hi < x.toInt) {tgt : Nat} (hg : (pc : Int) + dflt = (tgt : Int)) (kk : ZG ω mi tgt ls st h a b) : ZG ω mi pc ls (zi x :: st) h a b := by
  obtain ⟨hd, hw, hE⟩ := zok C ht
  obtain ⟨⟨hx, hb, hml, hown, hnm⟩, hts, ⟨hWd, hX, hbl, hs0⟩, hi, hRf, hRl⟩ := C
  exact fun H locs lsA hR hL => lv_tableOut hx hb hd hq hg (kk H locs lsA hR hL)
theorem z_tsIn (C : zX ω mi) {dflt lo hi : Int} {offs : Array Int} {len : Nat} {x : Int32} {ix iy iz alt : Nat} {ps : List Nat} (ht : zat mi pc = some (.tableswitch dflt lo hi offs, (pc, len, ix, iy, iz), alt, ps)) (h1 : ¬ x.toInt < lo) (h2 : ¬ hi < x.toInt) {off : Int} (ho : offs[(x.toInt - lo).toNat]? = some off) {tgt : Nat} (hg : (pc : Int) + off = (tgt : Int)) (kk : ZG ω mi tgt ls st h a b) : ZG ω mi pc ls (zi x :: st) h a b := by
  obtain ⟨hd, hw, hE⟩ := zok C ht
  obtain ⟨⟨hx, hb, hml, hown, hnm⟩, hts, ⟨hWd, hX, hbl, hs0⟩, hi, hRf, hRl⟩ := C
  exact fun H locs lsA hR hL => lv_tableIn hx hb hd h1 h2 ho hg (kk H locs lsA hR hL)
theorem z_lsw (C : zX ω mi) {dflt : Int} {pa : Array (Int × Int)} {len : Nat} {x : Int32} {ix iy iz alt : Nat} {ps : List Nat} (ht : zat mi pc = some (.lookupswitch dflt pa, (pc, len, ix, iy, iz), alt, ps)) (hp : (pa.toList.zip (pa.toList.drop 1)).all (fun (a, next) => a.1 < next.1) = true) {off : Int} (ho : Op.lookupswitch.offset pa.toList dflt x.toInt = off) {tgt : Nat} (hg : (pc : Int) + off = (tgt : Int)) (kk : ZG ω mi tgt ls st h a b) : ZG ω mi pc ls (zi x :: st) h a b := by
  obtain ⟨hd, hw, hE⟩ := zok C ht
  obtain ⟨⟨hx, hb, hml, hown, hnm⟩, hts, ⟨hWd, hX, hbl, hs0⟩, hi, hRf, hRl⟩ := C
  exact fun H locs lsA hR hL => lv_lookup hx hb hd hp ho hg (kk H locs lsA hR hL)
end ZR
