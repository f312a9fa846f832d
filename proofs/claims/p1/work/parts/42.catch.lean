/-! THE WRAPPERS' TABLES -/
def xcti (E : Nat) : Nat := [13, 104, 35, 70, 21, 15].getD E 0
theorem xct_ok : ∀ E, E < 6 → Cond.classLink "PolyglotPierLaw" (xcti E) (xexN E) ∈ xgw ∧ Cond.castable (xexN E) (xexN E) ∈ lw_tbl ∧ xcti E ≠ 0
  | 0, _ => ⟨xgw_of (List.mem_of_getElem? (i := 498) (by decide +kernel)) rfl, List.mem_of_getElem? (i := 509) (by decide +kernel), by decide⟩
  | 1, _ => ⟨xgw_of (List.mem_of_getElem? (i := 1212) (by decide +kernel)) rfl, List.mem_of_getElem? (i := 1224) (by decide +kernel), by decide⟩
  | 2, _ => ⟨xgw_of (List.mem_of_getElem? (i := 994) (by decide +kernel)) rfl, List.mem_of_getElem? (i := 1005) (by decide +kernel), by decide⟩
  | 3, _ => ⟨xgw_of (List.mem_of_getElem? (i := 1105) (by decide +kernel)) rfl, List.mem_of_getElem? (i := 1117) (by decide +kernel), by decide⟩
  | 4, _ => ⟨xgw_of (List.mem_of_getElem? (i := 602) (by decide +kernel)) rfl, List.mem_of_getElem? (i := 639) (by decide +kernel), by decide⟩
  | 5, _ => ⟨xgw_of (List.mem_of_getElem? (i := 499) (by decide +kernel)) rfl, List.mem_of_getElem? (i := 581) (by decide +kernel), by decide⟩
  | n + 6, h => absurd h (by omega)
noncomputable def xhrow (cc : ByteArray) (nL : Nat) (x : (Nat × Nat × Nat × Nat × Nat) × (Nat × Nat × Nat × Nat)) : Bool :=
  decide (x.1.1 = x.2.1) && (decide (x.1.2.1 = x.2.2.1) && (decide (x.1.2.2.1 < 6) && (decide (x.2.2.2.2 = xcti x.1.2.2.1) && (decide (x.1.2.2.2.1 < nL) &&
    ((decide (decode cc x.2.2.2.1 = .ok (.astore x.1.2.2.2.1, 2)) && decide (x.1.2.2.2.2 = x.2.2.2.1 + 2)) ||
     (decide (x.1.2.2.2.1 < 4) && (decide (decode cc x.2.2.2.1 = .ok (.astore_n (Fin.ofNat 4 x.1.2.2.2.1), 1)) && decide (x.1.2.2.2.2 = x.2.2.2.1 + 1))))))))
noncomputable def xhok (i : Nat) : Bool := decide (xHH i = []) || (decide ((xY i).cls = "PolyglotPierLaw") && (decide ((xmeths i).2.1.length = (xHH i).length) && ((xmeths i).2.1.zip (xHH i)).all (xhrow (xBy i) (xML i))))
theorem xhok_all : (List.range 157).all xhok = true := by decide +kernel
section XCT
variable {p : Program} {l : Launch} {e : Env} {R : Room} {s : State} {m : MethodId} {args : Array Value} {below : List Frame} {meth : Method} {c : Code} {Q : State → Prop} {D : va_G} {ca : Nat → ClassId} {ρ : xE} {H0 : Heap} {nL : Nat}
variable {cc : ByteArray} {pc : Nat} {ls : xL} {st : List xV} {ex : Bool} {n : Nat} {t : xT} {a b : Nat}
theorem xstq {lsA : Array Slot} {i : Nat} {v : Value} (hL : lv_has lsA nL ((i, v) :: (xM ρ ls).filter (fun q => !(q.1 == i) && !(q.1 + 1 == i && q.2.category == 2)))) : lv_has lsA nL (xM ρ (xfilt (fun q => xkeep i 1 q) ls)) := by
  refine lv_weak hL fun q hq => List.mem_cons_of_mem _ ?_
  obtain ⟨x, hx, rfl⟩ := List.mem_map.mp hq
  obtain ⟨h1, h2⟩ := xfilt_mem hx
  obtain ⟨g1, g2, -⟩ := xkeep_ok h2
  refine List.mem_filter.mpr ⟨List.mem_map.mpr ⟨x, h1, rfl⟩, ?_⟩
  show (!(x.1 == i) && !(x.1 + 1 == i && (xD ρ x.2).category == 2)) = true
  have e1 : (x.1 == i) = false := by simpa using g1
  rw [e1]
  by_cases h3 : x.1 + 1 = i
  · have e2 : (xD ρ x.2).category = 1 := xcat1 (g2 h3)
    simp [e2]
  · have e2 : (x.1 + 1 == i) = false := by simpa using h3
    simp [e2]
theorem xcov {x : ExceptionTableEntry} (h : x.startPc ≤ pc ∧ pc < x.endPc) : covers x pc = true := by simp [covers, h.1, h.2]
theorem xcovn {x : ExceptionTableEntry} (h : ¬ (x.startPc ≤ pc ∧ pc < x.endPc)) : covers x pc = false := by
  cases hc : covers x pc with
  | false => rfl
  | true =>
    simp only [covers, Bool.and_eq_true, decide_eq_true_eq] at hc
    exact absurd hc h
theorem x_catch1 (hx : p.tables.exec = Jvm.exec) (hb : c.code = cc) (hown : s.vm.findClass "PolyglotPierLaw" = some m.cls) (hts : ∀ w ∈ xgw, w.before args s = true) (hW : xWorld D ca ρ s) {E : Nat} {k : Nat → Nat → xO} {r : xO} (g : r.1 ≤ 3) :
    ∀ (rows : List (Nat × Nat × Nat × Nat × Nat)) (hh : List (Nat × Nat × Nat × Nat)) (pre : List ExceptionTableEntry), c.exceptionTable.toList = pre ++ tableOf hh → rows.length = hh.length → (rows.zip hh).all (xhrow cc nL) = true →
      (∀ z ∈ pre, covers z pc = false ∨ (z.catchType ≠ 0 ∧ ∃ nm : String, (Cond.classLink "PolyglotPierLaw" z.catchType nm).before args s = true ∧ va_Nc (xexN E) nm s)) →
      xtab rows E pc k = r → ∃ i pc', k i pc' = r ∧ (XG p l e R s m args below meth c Q D ca ρ H0 nL pc' (xfilt (fun q => xkeep i 1 q) ls) [] false n t a b → XX p l e R s m args below meth c Q D ca ρ H0 nL E pc ls st n t a b)
  | [], _, _, _, _, _, _, h => (xg4 h g).elim
  | row :: rows, [], _, _, hlen, _, _, _ => by cases hlen
  | row :: rows, q :: hh, pre, htb, hlen, hall, hpass, h => by
    have h : cond (Nat.ble row.1 pc) (cond (Nat.blt pc row.2.1) (cond (Nat.beq row.2.2.1 E) (k row.2.2.2.1 row.2.2.2.2) (cond (Nat.beq row.2.2.1 4) (cond (Nat.beq E 2) (xtab rows E pc k) (cond (Nat.beq E 3) (xtab rows E pc k) xfail)) xfail)) (xtab rows E pc k)) (xtab rows E pc k) = r := h
    have hall' : (xhrow cc nL (row, q) && (rows.zip hh).all (xhrow cc nL)) = true := hall
    rw [Bool.and_eq_true] at hall'
    obtain ⟨hrow, hall2⟩ := hall'
    simp only [xhrow, Bool.and_eq_true, Bool.or_eq_true, decide_eq_true_eq] at hrow
    obtain ⟨r1, r2, r3, r4, r5, r6⟩ := hrow
    have htb2 : c.exceptionTable.toList = (pre ++ [⟨q.1, q.2.1, q.2.2.1, q.2.2.2⟩]) ++ tableOf hh := by
      rw [htb, List.append_assoc]
      rfl
    have next : (covers ⟨q.1, q.2.1, q.2.2.1, q.2.2.2⟩ pc = false ∨ (q.2.2.2 ≠ 0 ∧ ∃ nm : String, (Cond.classLink "PolyglotPierLaw" q.2.2.2 nm).before args s = true ∧ va_Nc (xexN E) nm s)) → xtab rows E pc k = r → ∃ i pc', k i pc' = r ∧ (XG p l e R s m args below meth c Q D ca ρ H0 nL pc' (xfilt (fun q => xkeep i 1 q) ls) [] false n t a b → XX p l e R s m args below meth c Q D ca ρ H0 nL E pc ls st n t a b) := fun hz h9 =>
      x_catch1 hx hb hown hts hW g rows hh (pre ++ [⟨q.1, q.2.1, q.2.2.1, q.2.2.2⟩]) htb2 (by simpa using hlen) hall2 (fun z hz2 => by
        rcases List.mem_append.mp hz2 with h1 | h1
        · exact hpass z h1
        · rw [List.mem_singleton.mp h1]
          exact hz) h9
    rcases xcc h with ⟨e1, h1⟩ | ⟨e1, h1⟩
    · have e1 := Nat.le_of_ble_eq_true e1
      rcases xcc h1 with ⟨e2, h2⟩ | ⟨e2, h2⟩
      · have e2 : pc < row.2.1 := Nat.le_of_ble_eq_true e2
        rcases xcc h2 with ⟨e3, h3⟩ | ⟨e3, h3⟩
        · have e3 : row.2.2.1 = E := Nat.eq_of_beq_eq_true e3
          refine ⟨_, _, h3, fun kk H locs lsA qa ce hR hL hq hv hcl => ?_⟩
          obtain ⟨c1, c2, c3⟩ := xct_ok E (by rw [← e3]; exact r3)
          refine vx_catch (own := "PolyglotPierLaw") (name := xexN E) hown pre ⟨q.1, q.2.1, q.2.2.1, q.2.2.2⟩ (tableOf hh) (by rw [htb]; rfl) hpass (xcov ⟨by rw [← r1]; exact e1, by rw [← r2]; exact e2⟩) (by show q.2.2.2 ≠ 0; rw [r4, e3]; exact c3)
            (by show (Cond.classLink "PolyglotPierLaw" q.2.2.2 (xexN E)).before args s = true; rw [r4, e3]; exact hts _ c1) (va_Nw.use rfl (hW.2.1 _ c2 rfl)) hq hv hcl ?_
          show W p l e R s m args below meth c H locs a b Q (F0 m q.2.2.1 lsA [.ref qa])
          rcases r6 with ⟨d1, d2⟩ | ⟨d0, d1, d2⟩
          · refine lv_astore hx hb d1 hL r5 rfl fun ls' h' => ?_
            rw [← d2]
            exact kk H locs ls' hR (xstq h')
          · have hi : ((Fin.ofNat 4 row.2.2.2.1 : Fin 4) : Nat) = row.2.2.2.1 := Nat.mod_eq_of_lt d0
            refine lv_astore_n hx hb d1 hi hL r5 rfl fun ls' h' => ?_
            rw [← d2]
            exact kk H locs ls' hR (xstq h')
        · obtain ⟨e4, h4⟩ := xcf h3 g
          have e4 : row.2.2.1 = 4 := Nat.eq_of_beq_eq_true e4
          obtain ⟨c1, c2, c3⟩ := xct_ok 4 (by omega)
          have hn1 := hW.2.2.2.2.1.1
          have hn2 := hW.2.2.2.2.1.2
          rcases xcc h4 with ⟨e5, h5⟩ | ⟨e5, h5⟩
          · have e5 : E = 2 := Nat.eq_of_beq_eq_true e5
            subst e5
            exact next (Or.inr ⟨by rw [r4, e4]; exact c3, xexN 4, by rw [r4, e4]; exact hts _ c1, hn2⟩) h5
          · obtain ⟨e6, h6⟩ := xcf h5 g
            have e6 : E = 3 := Nat.eq_of_beq_eq_true e6
            subst e6
            exact next (Or.inr ⟨by rw [r4, e4]; exact c3, xexN 4, by rw [r4, e4]; exact hts _ c1, hn1⟩) h6
      · refine next (Or.inl (xcovn fun h9 => ?_)) h2
        have h8 : pc < q.2.1 := h9.2
        rw [← r2] at h8
        have : Nat.ble (pc + 1) row.2.1 = true := Nat.ble_eq_true_of_le h8
        exact absurd (show Nat.blt pc row.2.1 = true from this) (by rw [e2]; decide)
    · refine next (Or.inl (xcovn fun h9 => ?_)) h1
      have h8 : q.1 ≤ pc := h9.1
      rw [← r1] at h8
      have : Nat.ble row.1 pc = true := Nat.ble_eq_true_of_le h8
      rw [e1] at this
      cases this
theorem x_catch {i : Nat} (hi : i < 157) (hh : xHH i ≠ []) (hx : p.tables.exec = Jvm.exec) (hb : c.code = xBy i) (hown : s.vm.findClass (xY i).cls = some m.cls) (hts : ∀ w ∈ xgw, w.before args s = true) (hW : xWorld D ca ρ s) (htb : c.exceptionTable.toList = tableOf (xHH i)) :
    xCatch p l e R s m args below meth c Q D ca ρ H0 (xML i) (xmeths i).2 := by
  have h1 := List.all_eq_true.mp xhok_all i (List.mem_range.mpr hi)
  simp only [xhok, Bool.and_eq_true, Bool.or_eq_true, decide_eq_true_eq] at h1
  obtain ⟨h2, h3, h4⟩ := h1.resolve_left hh
  intro E pc ls st n t a b go r h g
  exact x_catch1 (ls := ls) (st := st) (n := n) (t := t) (a := a) (b := b) hx hb (by rw [← h2]; exact hown) hts hW g (xmeths i).2.1 (xHH i) [] htb h3 h4 (fun z hz => absurd hz List.not_mem_nil) h
end XCT
