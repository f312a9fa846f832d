/-! WHAT A RUN SAYS OF A METHOD -/
section XRT
variable {p : Program} {l : Launch} {e : Env} {R : Room} {s : State} {m : MethodId} {args : Array Value} {below : List Frame} {meth : Method} {c : Code} {Q : State → Prop} {D : va_G} {ca : Nat → ClassId} {ρ : xE} {H0 : Heap} {nL : Nat}
variable {cc : ByteArray} {pc : Nat} {ls : xL} {st : List xV} {ex : Bool} {n : Nat} {t : xT} {a b : Nat}
theorem xisr0 {ins : Instr} (h : xisr ins 0) : ins = .return_ := by simpa [xisr] using h
theorem xisr1 {ins : Instr} (h : xisr ins 1) : ins = .ireturn := by simpa [xisr] using h
theorem xisr4 {ins : Instr} (h : xisr ins 4) : ins = .lreturn := by simpa [xisr] using h
theorem xisr5 {ins : Instr} (h : xisr ins 5) : ins = .dreturn := by simpa [xisr] using h
theorem xisr6 {ins : Instr} (h : xisr ins 6) : ins = .areturn := by simpa [xisr] using h
theorem xisr7 {ins : Instr} (h : xisr ins 7) : ins = .freturn := by simpa [xisr] using h
theorem xans1 {K aa : Nat} {z : Int} : xans K [(aa, z)] = lget false [false, Nat.beq (xkind aa) 2, xfit 1 aa z, xfit 2 aa z, xfit 3 aa z, xfit 4 aa z, Nat.ble aa 1, Nat.beq aa 11] K := rfl
theorem xfit1a {aa : Nat} {z : Int} (h : xfit 1 aa z = true) : aa = 2 := by
  have h : cond (Nat.beq aa 2) (cond (xilt z (Int.ofNat 0)) false (xilt z (Int.ofNat 65536))) false = true := h
  rcases xcc2 h with ⟨h1, -⟩ | ⟨-, h1⟩
  · exact Nat.eq_of_beq_eq_true h1
  · cases h1
theorem xfit2a {aa : Nat} {z : Int} (h : xfit 2 aa z = true) : aa = 2 := by
  have h : cond (Nat.beq aa 2) (cond (xieq z (Int.ofNat 0)) true (xieq z (Int.ofNat 1))) false = true := h
  rcases xcc2 h with ⟨h1, -⟩ | ⟨-, h1⟩
  · exact Nat.eq_of_beq_eq_true h1
  · cases h1
theorem xref1 {aa : Nat} {z : Int} (h : Nat.ble aa 1 = true) : xD ρ (aa, z) = .null ∨ ∃ x : Nat, xD ρ (aa, z) = .ref x := by
  have h := Nat.le_of_ble_eq_true h
  match aa, h with
  | 0, _ => exact Or.inl rfl
  | 1, _ => exact Or.inr ⟨_, rfl⟩
theorem x_retW (hx : p.tables.exec = Jvm.exec) (hb : c.code = cc) {F : Option FieldType} (hret : meth.sig.returnType = F) (hans : xans (xrk F) st = true) {v : Nat} (hv : v = xrd (xrk F)) {ins : Instr} (his : xisr ins v) (hd : decode cc pc = .ok (ins, 1)) (hlocks : meth.locks = false)
    {Qc : Array Value → State → Outcome → State → Prop} {XC : String → State → State → Prop} {mc ms : Nat} {free : Addr → Prop} {H : Heap} {locs : List Loc} {lsA : Array Slot} (ha : a ≤ mc) (hb2 : b ≤ ms)
    (hq : ∀ u : State, u.heap = H → Qc args s (.returned (st.head?.map (xD ρ))) u) (hf : ∀ q ∈ locs, free q.base) : W p l e R s m args below meth c H locs a b (vx_MQ below Qc XC args s mc ms free) (F0 m pc lsA (st.map (xD ρ))) := by
  refine W.widen ha hb2 (vx_ret ?_)
  match st, hans, hq with
  | [], hans, hq =>
    have h0 : xrk F = 0 := Nat.eq_of_beq_eq_true hans
    have hF : F = none := by
      revert h0
      cases F with
      | none => intro _; rfl
      | some z => cases z <;> (intro h; cases h)
    subst hF
    subst hv
    obtain rfl := xisr0 his
    exact W.vret hx hb hret (fun u hu _ => hq u hu) hf hd hlocks
  | _ :: _ :: _, hans, _ => cases hans
  | [(aa, z)], hans, hq =>
    rw [xans1] at hans
    subst hv
    have hq : ∀ u : State, u.heap = H → Qc args s (.returned (some (xD ρ (aa, z)))) u := hq
    show W p l e R s m args below meth c H locs mc ms _ (F0 m pc lsA [xD ρ (aa, z)])
    match F, hret, hans, his with
    | none, hret, hans, his => cases hans
    | some .byte, hret, hans, his => cases hans
    | some .short, hret, hans, his => cases hans
    | some .int, hret, hans, his =>
      obtain rfl := xisr1 his
      obtain ⟨x, hxx⟩ := xk2 (ρ := ρ) (z := z) (Nat.eq_of_beq_eq_true hans)
      rw [hxx] at hq ⊢
      exact W.iret hx hb hret (fun u hu _ => hq u hu) hf hd hlocks
    | some .char, hret, hans, his =>
      obtain rfl := xisr1 his
      have hn := (xfit_ok (ρ := ρ) (ty := 1) (F := .char) rfl hans).1
      obtain ⟨x, hxx⟩ := xk2 (ρ := ρ) (z := z) (show xkind aa = 2 by rw [xfit1a hans]; rfl)
      rw [hxx] at hq hn ⊢
      exact W.zret hx hb hret hn (fun u hu _ => hq u hu) hf hd hlocks
    | some .boolean, hret, hans, his =>
      obtain rfl := xisr1 his
      have hn := (xfit_ok (ρ := ρ) (ty := 2) (F := .boolean) rfl hans).1
      obtain ⟨x, hxx⟩ := xk2 (ρ := ρ) (z := z) (show xkind aa = 2 by rw [xfit2a hans]; rfl)
      rw [hxx] at hq hn ⊢
      exact W.zret hx hb hret hn (fun u hu _ => hq u hu) hf hd hlocks
    | some .long, hret, hans, his =>
      obtain rfl := xisr4 his
      obtain ⟨x, hxx⟩ := xk3 (ρ := ρ) (z := z) (Nat.eq_of_beq_eq_true hans)
      rw [hxx] at hq ⊢
      exact W.lret hx hb hret (fun u hu _ => hq u hu) hf hd hlocks
    | some .double, hret, hans, his =>
      obtain rfl := xisr5 his
      obtain ⟨x, hxx⟩ := xk4 (ρ := ρ) (z := z) (Nat.eq_of_beq_eq_true hans)
      rw [hxx] at hq ⊢
      exact W.dret hx hb hret (fun u hu _ => hq u hu) hf hd hlocks
    | some .float, hret, hans, his =>
      obtain rfl := xisr7 his
      have h11 : aa = 11 := Nat.eq_of_beq_eq_true hans
      subst h11
      exact W.fret (v := FP.fconst0) hx hb hret (fun u hu _ => hq u hu) hf hd hlocks
    | some (.object nm), hret, hans, his =>
      obtain rfl := xisr6 his
      exact W.aret hx hb hret (Or.inl ⟨_, rfl⟩) (xref1 hans) (fun u hu _ => hq u hu) hf hd hlocks
    | some (.array ty), hret, hans, his =>
      obtain rfl := xisr6 his
      exact W.aret hx hb hret (Or.inr ⟨_, rfl⟩) (xref1 hans) (fun u hu _ => hq u hu) hf hd hlocks
theorem xRel_nil {H : Heap} {locs : List Loc} (h : xRel D ca ρ H0 ex n t H locs) : xRel D ca ρ H0 ex n t H [] := ⟨h.1, h.2.1, h.2.2.1, ⟨h.2.2.2.1.1, h.2.2.2.1.2.1, fun _ h => by cases h⟩, h.2.2.2.2⟩
theorem xtwo_cat {v : xV} : (xD ρ v).category = 2 ↔ xtwo v.1 = true := by
  obtain ⟨k, z⟩ := v
  rw [xcat]
  cases xtwo k <;> simp
theorem xargs_eq : ∀ (as : List xV) (i : Nat), xM ρ (xargs as i) = lv_args i (as.map (xD ρ))
  | [], _ => rfl
  | v :: as, i => by
    have ih := xargs_eq as (Nat.add i (cond (xtwo v.1) 2 1))
    have e1 : xM ρ (xargs (v :: as) i) = (i, xD ρ v) :: xM ρ (xargs as (Nat.add i (cond (xtwo v.1) 2 1))) := rfl
    rw [e1, ih]
    show _ = (i, xD ρ v) :: lv_args (if (xD ρ v).category = 2 then i + 2 else i + 1) (as.map (xD ρ))
    congr 2
    cases h : xtwo v.1 with
    | true => rw [if_pos (xtwo_cat.mpr h)]; rfl
    | false => rw [if_neg (fun q => by rw [xtwo_cat, h] at q; cases q)]; rfl
theorem xargs_sl : ∀ (as : List xV), (lg_sl (as.map (xD ρ))).length = xsum as
  | [] => rfl
  | v :: as => by
    have ih := xargs_sl as
    have e1 : lg_sl ((v :: as).map (xD ρ)) = (if (xD ρ v).category = 2 then [.val (xD ρ v), .second] else [.val (xD ρ v)]) ++ lg_sl (as.map (xD ρ)) := rfl
    have e2 : xsum (v :: as) = (cond (xtwo v.1) 2 1) + xsum as := rfl
    rw [e1, e2, List.length_append, ih]
    cases h : xtwo v.1 with
    | true => rw [if_pos (xtwo_cat.mpr h)]; rfl
    | false => rw [if_neg (fun q => by rw [xtwo_cat, h] at q; cases q)]; rfl
set_option maxRecDepth 20000 in
theorem xcr {d : Nat} : d + 9 ≤ d + 1 + 8 ∧ 60 * d + 460 ≤ 60 * (d + 1) + 400 := by constructor <;> omega
/-- the ends of a method -/
theorem x_ends {own nm : String} {d i : Nat} {B : xB} {call : xA} (C : xCtx p l R s m args meth c D ca ρ H0 nL cc own nm d (xmeths i).2 B call) (hl : l.stackTraces = false) (hlocks : meth.locks = false) (hret : meth.sig.returnType = xRt i) (hk : xrk (xRt i) = (xmeths i).2.2.2.1) {r : xO} (hor : (r.1 = 1 ∧ (xans (xmeths i).2.2.2.1 (rst r) = true ∧ r.2.1 = xrd (xmeths i).2.2.2.1)) ∨ (r.1 ≠ 1 ∧ ∀ x ∈ c.exceptionTable.toList, False)) :
    xEnd p l e R s m args below meth c (vx_MQ below (xQc D ca ρ H0 r) (xXC D ca ρ H0 r) args s (xmeths i).2.2.2.2.1 (xmeths i).2.2.2.2.2 (fun q => ρ.1 ≤ q)) D ca ρ H0 nL cc (xmeths i).2 r := by
  have C' := C
  obtain ⟨⟨hx, hb, hml, hown, hnm⟩, hts, -, -, ⟨hRf, hRl, hRc, hRs⟩, -⟩ := C'
  refine ⟨fun h1 ⟨ins, his, hd⟩ ha hb2 H locs lsA hR hL => ?_, fun h2 k ow hd how hth hsum ha hb2 H locs lsA hR hL => ?_, fun h3 hP ha hb2 H locs lsA q ce hR hL hc hv hcl => ?_⟩
  · rcases hor with ⟨-, o1, o2⟩ | ⟨o1, -⟩
    · rw [← hk] at o1 o2
      exact x_retW hx hb hret o1 o2 his hd hlocks ha hb2 (fun u hu => ⟨h1, rfl, by rw [hu]; exact xRel_nil hR⟩) hR.2.2.2.1.2.2
    · exact absurd h1 o1
  · rcases hor with ⟨o1, -⟩ | ⟨o1, hnt⟩
    · rw [h2] at o1
      cases o1
    · exact x_throw C hl hlocks hnt hd how hth hsum ha hb2 hRc hRs (fun H H1 locs u hu hR hz hq => ⟨o1, rfl, by rw [hu]; exact xRel_more hR hz hq (fun _ h => by cases h)⟩) hR hL
  · rcases hor with ⟨o1, -⟩ | ⟨o1, hnt⟩
    · rw [h3] at o1
      cases o1
    · exact vx_out (E := xexN r.2.1) (fun x hx => (hnt x hx).elim) hlocks hc hv hcl (fun u hu _ => ⟨o1, rfl, by rw [hu]; exact xRel_nil hR⟩) hR.2.2.2.1.2.2 ha hb2
end XRT
theorem xcallix : ∀ i, i < 131 → ¬ xHH i = [] → i = 128 := by decide +kernel
theorem xcon_of {l : Launch} (hl : l.stackTraces = false) {D : va_G} {ca : Nat → ClassId} {ρ : xE} {H0 : Heap} (hbl : ρ.2.1 < H0.size) {B : xB} (hbd : xbds B ρ ∧ (B.1 < 32 → ρ.2.2 0 &&& 31 = Int32.ofInt (Int.ofNat B.1))) (fuel : Nat) :
    ∀ (d i : Nat) (as : List xV) (ex : Bool) (n : Nat) (t : xT) (r : xO), xcall xmeths B fuel d i as ex n t = r → r.1 ≤ 3 → i < 131 → ((r.1 = 1 ∧ (xans (xmeths i).2.2.2.1 (rst r) = true ∧ r.2.1 = xrd (xmeths i).2.2.2.1)) ∨ (r.1 ≠ 1 ∧ xHH i = [])) → xCon l d D ca ρ H0 B.2.1 i as ex n t r := by
  intro d
  induction d with
  | zero => intro i as ex n t r h g; exact (xg4 (show xfail = r from h) g).elim
  | succ d ih =>
    intro i as ex n t r h g hi hor
    have h : cond (Nat.ble (xsum as) (xmeths i).1.1.2) (xloop (xcall xmeths B fuel d) (fun j => (xmeths j).2) (xmeths i) B fuel 0 (xargs as 0) [] ex n t 0 0) xfail = r := h
    obtain ⟨e1, h1⟩ := xcf h g
    obtain ⟨f1, f2, f3, ⟨f4, f5⟩, f6, f7⟩ := xmf_ok hi
    have hlen : (lg_sl (as.map (xD ρ))).length ≤ xML i := by
      rw [xargs_sl, ← f5]
      exact Nat.le_of_ble_eq_true e1
    have hL0 := lv_entry (as.map (xD ρ)) hlen
    rw [← xargs_eq] at hL0
    have hrm : d + 9 ≤ (xrm (d + 1) i).frames ∧ 60 * d + 460 ≤ (xrm (d + 1) i).locals := xcr
    by_cases hh : xHH i = []
    · refine vx_ofW (cc := xBy i) (maxL := xML i) (ret := xRt i) f1 (by unfold xws; rw [xcw_nil hh]) fun p e s m args below meth c s₁ BL hml hnt hP => ?_
      obtain ⟨⟨hav, hWd, hRel⟩, hXs⟩ := hP
      subst hav
      have hws := atoms_spec (ws := xws i) BL.pre
      have hts : ∀ w ∈ xgw, w.before (as.map (xD ρ)).toArray s = true := fun w hw => hws w (List.mem_cons_of_mem _ hw)
      have hs0 : ∀ q : Nat, q < ρ.1 → s.heap[q]? = H0[q]? := fun q hq => hRel.2.2.2.1.2.1 q (by have := hRel.2.2.2.2; omega) (fun h => by have h : ρ.1 ≤ q := h; omega)
      have C : xCtx p l (headSpec (xws i) (xrm (d + 1) i)).room s m (as.map (xD ρ)).toArray meth c D ca ρ H0 (xML i) (xBy i) (xY i).cls (xY i).name d (xmeths i).2 B (xcall xmeths B fuel d) :=
        ⟨⟨BL.exec, BL.bytes, hml, findClass_of_methodNamed BL.named, (name_of_methodNamed BL.named BL.method).1⟩, hts, ⟨hWd, hXs, hbl, hs0⟩, hbd, ⟨hrm.1, hrm.2, rfl, rfl⟩, ih⟩
      rw [lg_entry_eq]
      exact xloop_ok C (fun q => absurd (f7.mpr hh) q) (xtabs i hi) g (x_ends C hl BL.notSynchronized BL.returns f6 (hor.imp id (fun z => ⟨z.1, hnt⟩))) fuel h1 s.heap [] _ hRel hL0
    · exfalso
      obtain rfl := xcallix i hi hh
      cases fuel with
      | zero => exact xg4 (show xfail = r from h1) g
      | succ f => exact xg4 (show xfail = r from h1) g
