/-! constants of two slots -/
theorem z_ldcd {ω : zO} {mi pc a b : Nat} {ls : List (Nat × zV)} {st : List zV} {h : zH} (C : zX ω mi) {index : Nat} {v : UInt64} (hd : decode (xBy mi) pc = .ok (.ldc2_w index, 3)) (hc : Cond.constantDouble (xY mi).cls index v ∈ lw_tbl) (kk : ZG ω mi (pc + 3) ls (zd v :: st) h a b) : ZG ω mi pc ls st h a b := by
  obtain ⟨⟨hx, hb, hml, how, hnm⟩, hts, hrest⟩ := C
  exact fun H locs lsA hR hL => lv_ldc2d hx hb how (hts _ (xgw_of hc rfl)) hd (kk H locs lsA hR hL)
theorem z_ldcj {ω : zO} {mi pc a b : Nat} {ls : List (Nat × zV)} {st : List zV} {h : zH} (C : zX ω mi) {index : Nat} {v : Int64} (hd : decode (xBy mi) pc = .ok (.ldc2_w index, 3)) (hc : Cond.constantLong (xY mi).cls index v ∈ lw_tbl) (kk : ZG ω mi (pc + 3) ls (zj v :: st) h a b) : ZG ω mi pc ls st h a b := by
  obtain ⟨⟨hx, hb, hml, how, hnm⟩, hts, hrest⟩ := C
  exact fun H locs lsA hR hL => lv_ldc2 hx hb how (hts _ (xgw_of hc rfl)) hd (kk H locs lsA hR hL)
set_option maxRecDepth 100000 in
theorem kd39 : Cond.constantDouble "PolyglotPier$Border" 39 4890909195324358656 ∈ lw_tbl := by decide +kernel
set_option maxRecDepth 100000 in
theorem kd53 : Cond.constantDouble "PolyglotPier$Border" 53 13970166044103278592 ∈ lw_tbl := by decide +kernel
set_option maxRecDepth 100000 in
theorem kd55 : Cond.constantDouble "PolyglotPier$Border" 55 4746794007244308480 ∈ lw_tbl := by decide +kernel
set_option maxRecDepth 100000 in
theorem kd65 : Cond.constantDouble "PolyglotPier$Border" 65 14114281232179134464 ∈ lw_tbl := by decide +kernel
set_option maxRecDepth 100000 in
theorem kd166 : Cond.constantDouble "PolyglotPier$Machine" 166 4611686018427387904 ∈ lw_tbl := by decide +kernel
set_option maxRecDepth 100000 in
theorem kd52 : Cond.constantDouble "PolyglotPier$Sums" 52 9218868437227405311 ∈ lw_tbl := by decide +kernel
