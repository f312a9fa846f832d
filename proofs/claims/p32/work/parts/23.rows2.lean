/-! branches, fields, arrays, new cells over a picture -/
def xCmp (k : ClassFile.Cond) (x y : Int32) : Prop := match k with
  | .eq => x = y
  | .ne => ¬ x = y
  | .lt => x < y
  | .ge => y ≤ x
  | .gt => y < x
  | .le => x ≤ y
theorem xcond_ok {B : xB} {ρ : xE} (hB : xbds B ρ) {k : ClassFile.Cond} {t u : Nat} {z w : Int} {y n r : xO} (h : xcond k B t z u w y n = r) (g : r.1 ≤ 3) : ∃ a b : Int32, xD ρ (t, z) = .int a ∧ xD ρ (u, w) = .int b ∧ ((xCmp k a b ∧ y = r) ∨ (¬ xCmp k a b ∧ n = r)) := by
  cases k with
  | eq => exact xeq_ok hB h g
  | ne =>
    obtain ⟨a, b, h1, h2, h3 | h3⟩ := xeq_ok hB h g
    · exact ⟨a, b, h1, h2, Or.inr ⟨fun q => q h3.1, h3.2⟩⟩
    · exact ⟨a, b, h1, h2, Or.inl h3⟩
  | lt => exact xlt_ok hB h g
  | ge =>
    obtain ⟨a, b, h1, h2, h3 | h3⟩ := xlt_ok hB h g
    · exact ⟨a, b, h1, h2, Or.inr ⟨fun q => absurd h3.1 (Int32.not_lt.mpr q), h3.2⟩⟩
    · exact ⟨a, b, h1, h2, Or.inl ⟨Int32.not_lt.mp h3.1, h3.2⟩⟩
  | gt =>
    obtain ⟨b, a, h2, h1, h3⟩ := xlt_ok hB h g
    exact ⟨a, b, h1, h2, h3⟩
  | le =>
    obtain ⟨b, a, h2, h1, h3 | h3⟩ := xlt_ok hB h g
    · exact ⟨a, b, h1, h2, Or.inr ⟨fun q => absurd h3.1 (Int32.not_lt.mpr q), h3.2⟩⟩
    · exact ⟨a, b, h1, h2, Or.inl ⟨Int32.not_lt.mp h3.1, h3.2⟩⟩
section XR2
variable {p : Program} {l : Launch} {e : Env} {R : Room} {s : State} {m : MethodId} {args : Array Value} {below : List Frame} {meth : Method} {c : Code} {Q : State → Prop} {D : va_G} {ca : Nat → ClassId} {ρ : xE} {H0 : Heap} {nL : Nat}
variable {cc : ByteArray} {pc : Nat} {ls : xL} {st : List xV} {ex : Bool} {n : Nat} {t : xT} {a b : Nat}
theorem s_if (hx : p.tables.exec = Jvm.exec) (hb : c.code = cc) {k : ClassFile.Cond} {off : Int} {tgt i : Nat} {z : Int} {x : Int32} (ht : (pc : Int) + off = (tgt : Int)) (hd : decode cc pc = .ok (.ifCond k off, 3)) (he : xD ρ (i, z) = .int x)
    (kt : xCmp k x 0 → XG p l e R s m args below meth c Q D ca ρ H0 nL tgt ls st ex n t a b) (kf : ¬ xCmp k x 0 → XG p l e R s m args below meth c Q D ca ρ H0 nL (pc + 3) ls st ex n t a b) : XG p l e R s m args below meth c Q D ca ρ H0 nL pc ls ((i, z) :: st) ex n t a b := fun H locs lsA hR hL => by
  rw [List.map_cons, he]
  cases k with
  | eq => exact lv_if_eq hx hb hd ht (fun q => kt q H locs lsA hR hL) (fun q => kf q H locs lsA hR hL)
  | ne => exact lv_if_ne hx hb hd ht (fun q => kt q H locs lsA hR hL) (fun q => kf (fun q2 => q2 q) H locs lsA hR hL)
  | lt => exact lv_if_lt hx hb hd ht (fun q => kt q H locs lsA hR hL) (fun q => kf q H locs lsA hR hL)
  | ge => exact lv_if_ge hx hb hd ht (fun q => kt q H locs lsA hR hL) (fun q => kf q H locs lsA hR hL)
  | gt => exact lv_if_gt hx hb hd ht (fun q => kt q H locs lsA hR hL) (fun q => kf q H locs lsA hR hL)
  | le => exact lv_if_le hx hb hd ht (fun q => kt q H locs lsA hR hL) (fun q => kf q H locs lsA hR hL)
theorem s_icmp (hx : p.tables.exec = Jvm.exec) (hb : c.code = cc) {k : ClassFile.Cond} {off : Int} {tgt i j : Nat} {z w : Int} {x y : Int32} (ht : (pc : Int) + off = (tgt : Int)) (hd : decode cc pc = .ok (.if_icmp k off, 3)) (he : xD ρ (i, z) = .int x) (he2 : xD ρ (j, w) = .int y)
    (kt : xCmp k x y → XG p l e R s m args below meth c Q D ca ρ H0 nL tgt ls st ex n t a b) (kf : ¬ xCmp k x y → XG p l e R s m args below meth c Q D ca ρ H0 nL (pc + 3) ls st ex n t a b) : XG p l e R s m args below meth c Q D ca ρ H0 nL pc ls ((j, w) :: (i, z) :: st) ex n t a b := fun H locs lsA hR hL => by
  rw [List.map_cons, List.map_cons, he, he2]
  cases k with
  | eq => exact lv_icmp_eq hx hb hd ht (fun q => kt q H locs lsA hR hL) (fun q => kf q H locs lsA hR hL)
  | ne => exact lv_icmp_ne hx hb hd ht (fun q => kt q H locs lsA hR hL) (fun q => kf (fun q2 => q2 q) H locs lsA hR hL)
  | lt => exact lv_icmp_lt hx hb hd ht (fun q => kt q H locs lsA hR hL) (fun q => kf q H locs lsA hR hL)
  | ge => exact lv_icmp_ge hx hb hd ht (fun q => kt q H locs lsA hR hL) (fun q => kf q H locs lsA hR hL)
  | gt => exact lv_icmp_gt hx hb hd ht (fun q => kt q H locs lsA hR hL) (fun q => kf q H locs lsA hR hL)
  | le => exact lv_icmp_le hx hb hd ht (fun q => kt q H locs lsA hR hL) (fun q => kf q H locs lsA hR hL)
theorem s_ifnull0 (hx : p.tables.exec = Jvm.exec) (hb : c.code = cc) {off : Int} {tgt : Nat} {z : Int} (ht : (pc : Int) + off = (tgt : Int)) (hd : decode cc pc = .ok (.ifnull off, 3)) (kk : XG p l e R s m args below meth c Q D ca ρ H0 nL tgt ls st ex n t a b) : XG p l e R s m args below meth c Q D ca ρ H0 nL pc ls ((0, z) :: st) ex n t a b := fun H locs lsA hR hL => lv_ifnullN hx hb hd ht (kk H locs lsA hR hL)
theorem s_ifnull1 (hx : p.tables.exec = Jvm.exec) (hb : c.code = cc) {off : Int} {z : Int} (hd : decode cc pc = .ok (.ifnull off, 3)) (kk : XG p l e R s m args below meth c Q D ca ρ H0 nL (pc + 3) ls st ex n t a b) : XG p l e R s m args below meth c Q D ca ρ H0 nL pc ls ((1, z) :: st) ex n t a b := fun H locs lsA hR hL => lv_ifnull hx hb hd (kk H locs lsA hR hL)
theorem s_ifnon0 (hx : p.tables.exec = Jvm.exec) (hb : c.code = cc) {off : Int} {z : Int} (hd : decode cc pc = .ok (.ifnonnull off, 3)) (kk : XG p l e R s m args below meth c Q D ca ρ H0 nL (pc + 3) ls st ex n t a b) : XG p l e R s m args below meth c Q D ca ρ H0 nL pc ls ((0, z) :: st) ex n t a b := fun H locs lsA hR hL => lv_ifnonnullN hx hb hd (kk H locs lsA hR hL)
theorem s_ifnon1 (hx : p.tables.exec = Jvm.exec) (hb : c.code = cc) {off : Int} {tgt : Nat} {z : Int} (ht : (pc : Int) + off = (tgt : Int)) (hd : decode cc pc = .ok (.ifnonnull off, 3)) (kk : XG p l e R s m args below meth c Q D ca ρ H0 nL tgt ls st ex n t a b) : XG p l e R s m args below meth c Q D ca ρ H0 nL pc ls ((1, z) :: st) ex n t a b := fun H locs lsA hR hL => lv_ifnonnull hx hb hd ht (kk H locs lsA hR hL)
theorem s_swOut (hx : p.tables.exec = Jvm.exec) (hb : c.code = cc) {dflt lo hi z : Int} {offs : Array Int} {len tgt : Nat} (hz : xin32 z = true) (h : z < lo ∨ hi < z) (ht : (pc : Int) + dflt = (tgt : Int)) (hd : decode cc pc = .ok (.tableswitch dflt lo hi offs, len)) (kk : XG p l e R s m args below meth c Q D ca ρ H0 nL tgt ls st ex n t a b) : XG p l e R s m args below meth c Q D ca ρ H0 nL pc ls ((2, z) :: st) ex n t a b := fun H locs lsA hR hL => by
  obtain ⟨h1, h2⟩ := xin32_iff hz
  exact lv_tableOut hx hb hd (x := Int32.ofInt z) (by rw [xofInt h1 h2]; exact h) ht (kk H locs lsA hR hL)
theorem s_swIn (hx : p.tables.exec = Jvm.exec) (hb : c.code = cc) {dflt lo hi z off : Int} {offs : Array Int} {len tgt : Nat} (hz : xin32 z = true) (h1 : ¬ z < lo) (h2 : ¬ hi < z) (ho : offs[(z - lo).toNat]? = some off) (ht : (pc : Int) + off = (tgt : Int)) (hd : decode cc pc = .ok (.tableswitch dflt lo hi offs, len)) (kk : XG p l e R s m args below meth c Q D ca ρ H0 nL tgt ls st ex n t a b) : XG p l e R s m args below meth c Q D ca ρ H0 nL pc ls ((2, z) :: st) ex n t a b := fun H locs lsA hR hL => by
  obtain ⟨g1, g2⟩ := xin32_iff hz
  have e := xofInt g1 g2
  exact lv_tableIn hx hb hd (x := Int32.ofInt z) (by rw [e]; exact h1) (by rw [e]; exact h2) (by rw [e]; exact ho) ht (kk H locs lsA hR hL)
theorem s_lcmp (hx : p.tables.exec = Jvm.exec) (hb : c.code = cc) {z w : Int} (hz : xin63 z = true) (hw : xin63 w = true) (hd : decode cc pc = .ok (.lcmp, 1)) (kk : XG p l e R s m args below meth c Q D ca ρ H0 nL (pc + 1) ls ((2, cond (xilt z w) (Int.negSucc 0) (cond (xieq z w) (Int.ofNat 0) (Int.ofNat 1))) :: st) ex n t a b) : XG p l e R s m args below meth c Q D ca ρ H0 nL pc ls ((3, w) :: (3, z) :: st) ex n t a b := fun H locs lsA hR hL => by
  obtain ⟨g1, g2⟩ := xin63_iff hz
  obtain ⟨g3, g4⟩ := xin63_iff hw
  have ez : (Int64.ofInt z).toInt = z := x63 g1 g2
  have ew : (Int64.ofInt w).toInt = w := x63 g3 g4
  have h := kk H locs lsA hR hL
  have e' : xD ρ (2, cond (xilt z w) (Int.negSucc 0) (cond (xieq z w) (Int.ofNat 0) (Int.ofNat 1))) = .int (lg_cmp (Int64.ofInt z) (Int64.ofInt w)) := by
    unfold lg_cmp
    cases h1 : xilt z w with
    | true =>
      have hl := xilt_iff.mp h1
      rw [if_neg (by intro q; have := Int64.lt_iff_toInt_lt.mp q; omega), if_neg (by intro q; have := congrArg Int64.toInt q; omega)]
      rfl
    | false =>
      have hl := xilt_no h1
      cases h2 : xieq z w with
      | true =>
        have hq := xieq_iff.mp h2
        subst hq
        rw [if_neg (by intro q; have := Int64.lt_iff_toInt_lt.mp q; omega), if_pos rfl]
        rfl
      | false =>
        have hq := xieq_no h2
        rw [if_pos (Int64.lt_iff_toInt_lt.mpr (by omega))]
        rfl
  rw [List.map_cons, e'] at h
  exact W.lcmp hx hb hd h
/-! fields -/
variable {own : String}
theorem xent {ci : Nat} {k : Nat} {fs : List xV} (hk : k < n) (hc : tget (9, 0, []) 10 t k = (0, ci, fs)) : (xW ca ρ n t)[k]? = some (ρ.1 + k, .inr (ci, fs.map (xD ρ))) := by
  rw [xW_at hk, hc]
  rfl
theorem xent1 {ty : Nat} {k : Nat} {fs : List xV} (hk : k < n) (hc : tget (9, 0, []) 10 t k = (1, ty, fs)) : (xW ca ρ n t)[k]? = some (ρ.1 + k, .inl (ca ty, xdA ρ ty fs)) := by
  rw [xW_at hk, hc]
  rfl
theorem xval_some {fs : List xV} {k : Nat} {u : Nat} {w : Int} (h : lget (99, 0) fs k = (u, w)) (hu : u ≠ 99) : (fs.map (xD ρ))[k]? = some (xD ρ (u, w)) ∧ k < fs.length := by
  have h1 := lget_some (z := ((99, 0) : xV)) (l := fs) (k := k) (by rw [h]; intro q; exact hu (congrArg Prod.fst q))
  rw [List.getElem?_map, h1, h]
  exact ⟨rfl, (List.getElem?_eq_some_iff.mp h1).1⟩
theorem s_get (hx : p.tables.exec = Jvm.exec) (hb : c.code = cc) (hts : ∀ w ∈ xgw, w.before args s = true) (hown : s.vm.findClass own = some m.cls) (hW : xWorld D ca ρ s) {index ci k : Nat} {C : String} {T : u_T} {N : Nat} (hin : ∀ w ∈ u_ws C T N, w ∈ xgw) (hc : xcl[ci]? = some (C, T, N)) (hk : k < N) (href : (T k).1 = C)
    (hlink : (Cond.fieldLink own index C (T k).2.1 (T k).2.2.1).before args s = true) {z : Int} {fs : List xV} (hz : xnat z < n) (hcell : tget (9, 0, []) 10 t (xnat z) = (0, ci, fs)) {u : Nat} {w : Int} (hv : lget (99, 0) fs k = (u, w)) (hu : u ≠ 99)
    (hd : decode cc pc = .ok (.getfield index, 3)) (kk : XG p l e R s m args below meth c Q D ca ρ H0 nL (pc + 3) ls ((u, w) :: st) ex n t a b) : XG p l e R s m args below meth c Q D ca ρ H0 nL pc ls ((1, z) :: st) ex n t a b := fun H locs lsA hR hL =>
  va_get hx hb hts hin hown hW.1 hR.1 (xnat z) (xent hz hcell) hc k hk hlink (fun x hx => by rw [href] at hx; exact hx) (xval_some hv hu).1 hd (kk H locs lsA hR hL)
theorem s_getN (hx : p.tables.exec = Jvm.exec) (hb : c.code = cc) (hts : ∀ w ∈ xgw, w.before args s = true) (hown : s.vm.findClass own = some m.cls) (hW : xWorld D ca ρ s) {index ci k : Nat} {C host : String} {T : u_T} {N : Nat} (hin : ∀ w ∈ u_ws C T N, w ∈ xgw) (hc : xcl[ci]? = some (C, T, N)) (hk : k < N) (href : (T k).1 = C)
    (hlink : (Cond.fieldLinkNest own index C (T k).2.1 (T k).2.2.1 host).before args s = true) {z : Int} {fs : List xV} (hz : xnat z < n) (hcell : tget (9, 0, []) 10 t (xnat z) = (0, ci, fs)) {u : Nat} {w : Int} (hv : lget (99, 0) fs k = (u, w)) (hu : u ≠ 99)
    (hd : decode cc pc = .ok (.getfield index, 3)) (kk : XG p l e R s m args below meth c Q D ca ρ H0 nL (pc + 3) ls ((u, w) :: st) ex n t a b) : XG p l e R s m args below meth c Q D ca ρ H0 nL pc ls ((1, z) :: st) ex n t a b := fun H locs lsA hR hL =>
  va_getN hx hb hts hin hown hW.1 hR.1 (xnat z) (xent hz hcell) hc k hk hlink (fun x hx => by rw [href] at hx; exact hx) (xval_some hv hu).1 hd (kk H locs lsA hR hL)
/-- what a field's type takes of a value -/
theorem xfit_ok {ty : Nat} {F : FieldType} (hF : match ty with | 0 => F = .int | 1 => F = .char | 2 => F = .boolean | 3 => F = .long | 4 => F = .double | _ => F.isReference = true) {u : Nat} {w : Int} (h : xfit ty u w = true) : narrow F (xD ρ (u, w)) = xD ρ (u, w) ∧ fits F (xD ρ (u, w)) = true := by
  match ty, hF, h with
  | 0, hF, h =>
    obtain ⟨x, hx⟩ := xk2 (ρ := ρ) (z := w) (Nat.eq_of_beq_eq_true h)
    rw [hx, show F = .int from hF]
    exact ⟨rfl, rfl⟩
  | 1, hF, h =>
    rw [show F = .char from hF]
    have h : cond (Nat.beq u 2) (cond (xilt w (Int.ofNat 0)) false (xilt w (Int.ofNat 65536))) false = true := h
    cases h1 : Nat.beq u 2 with
    | false => rw [h1] at h; cases h
    | true =>
      rw [h1] at h
      rw [show u = 2 from Nat.eq_of_beq_eq_true h1]
      have h : cond (xilt w (Int.ofNat 0)) false (xilt w (Int.ofNat 65536)) = true := h
      cases h2 : xilt w (Int.ofNat 0) with
      | true => rw [h2] at h; cases h
      | false =>
        rw [h2] at h
        have h3 := xilt_no h2
        have h4 := xilt_iff.mp (show xilt w (Int.ofNat 65536) = true from h)
        have h3' : 0 ≤ w := h3
        have h4' : w < 65536 := h4
        have hi := xofInt (show -2147483648 ≤ w by omega) (show w < 2147483648 by omega)
        obtain ⟨k, rfl⟩ := Int.eq_ofNat_of_zero_le h3'
        have hk : k < 65536 := by omega
        have e2 : (Int32.ofInt (k : Int)).toUInt32.toNat = k % 4294967296 := rfl
        have e : (Int32.ofInt (k : Int)).toUInt32.toUInt16.toUInt32 = (Int32.ofInt (k : Int)).toUInt32 := by
          apply UInt32.toNat_inj.mp
          rw [UInt16.toNat_toUInt32, UInt32.toNat_toUInt16, e2]
          omega
        refine ⟨?_, ?_⟩
        · show Value.int (Int32.ofInt (k : Int)).toUInt32.toUInt16.toUInt32.toInt32 = Value.int (Int32.ofInt (k : Int))
          rw [e]
          rfl
        · show (decide ((0 : Int32) ≤ Int32.ofInt (k : Int)) && decide (Int32.ofInt (k : Int) ≤ 65535)) = true
          have d0 : (0 : Int32).toInt = 0 := rfl
          have d1 : (65535 : Int32).toInt = 65535 := rfl
          rw [decide_eq_true (Int32.le_iff_toInt_le.mpr (by omega)), decide_eq_true (Int32.le_iff_toInt_le.mpr (by omega))]
          rfl
  | 2, hF, h =>
    rw [show F = .boolean from hF]
    have h : cond (Nat.beq u 2) (cond (xieq w (Int.ofNat 0)) true (xieq w (Int.ofNat 1))) false = true := h
    cases h1 : Nat.beq u 2 with
    | false => rw [h1] at h; cases h
    | true =>
      rw [h1] at h
      rw [show u = 2 from Nat.eq_of_beq_eq_true h1]
      have h : cond (xieq w (Int.ofNat 0)) true (xieq w (Int.ofNat 1)) = true := h
      cases h2 : xieq w (Int.ofNat 0) with
      | true =>
        rw [xieq_iff.mp h2]
        exact ⟨rfl, rfl⟩
      | false =>
        rw [h2] at h
        rw [xieq_iff.mp (show xieq w (Int.ofNat 1) = true from h)]
        exact ⟨rfl, rfl⟩
  | 3, hF, h =>
    obtain ⟨x, hx⟩ := xk3 (ρ := ρ) (z := w) (Nat.eq_of_beq_eq_true h)
    rw [hx, show F = .long from hF]
    exact ⟨rfl, rfl⟩
  | 4, hF, h =>
    obtain ⟨x, hx⟩ := xk4 (ρ := ρ) (z := w) (Nat.eq_of_beq_eq_true h)
    rw [hx, show F = .double from hF]
    exact ⟨rfl, rfl⟩
  | ty + 5, hF, h =>
    have hF' : F.isReference = true := hF
    have hu : u ≤ 1 := Nat.le_of_ble_eq_true h
    have hv : xD ρ (u, w) = .null ∨ ∃ q, xD ρ (u, w) = .ref q := by
      match u, hu with
      | 0, _ => exact Or.inl rfl
      | 1, _ => exact Or.inr ⟨_, rfl⟩
    rcases hv with hv | ⟨q, hv⟩ <;> rw [hv] <;> cases F <;> first | exact ⟨rfl, rfl⟩ | cases hF'
theorem xputs {D : va_G} {q0 ci k : Nat} {C : String} {T : u_T} {N : Nat} {fs : List xV} {v : xV} {iS : Nat → Nat} {cell : Cell} {H1 : Heap} (hc : xcl[ci]? = some (C, T, N)) (hk : k < fs.length) (hiS : D.2 ci = iS) (hap : ∀ x y, x < N → y < N → x ≠ y → iS x ≠ iS y) (hkN : k < N)
    (e1 : H1[q0]? = some (cell.setSlot (iS k) (xD ρ v))) (q2 : cell.cls = D.1 ci) (q3 : cell.vm = .none) (q4 : ∀ j, j < N → cell.slots[iS j]? = some (vp_V (fs.map (xD ρ)) j)) : va_at D xcl (q0, xdC ca ρ (0, ci, lset v fs k)) H1 := by
  subst hiS
  refine ⟨_, hc, ?_⟩
  rw [show (0, ci, lset v fs k).2.2.map (xD ρ) = (fs.map (xD ρ)).set k (xD ρ v) by rw [lset_eq, List.map_set]]
  exact t_OB.to (V := updV (vp_V (fs.map (xD ρ))) k (xD ρ v)) ⟨_, e1, q2, q3, t_set q4 hap hkN _⟩ (fun j _ => vp_updV_set (by simpa using hk) _ j)
theorem s_put (hx : p.tables.exec = Jvm.exec) (hb : c.code = cc) (hts : ∀ w ∈ xgw, w.before args s = true) (hown : s.vm.findClass own = some m.cls) (hW : xWorld D ca ρ s) {index ci k ty : Nat} {C : String} {T : u_T} {N : Nat} {tyF : Nat → FieldType} (hin : ∀ w ∈ u_ws C T N, w ∈ xgw) (hty : ∀ k, k < N → parseFieldDescriptor (T k).2.2.1 = some (tyF k)) (hnm : ∀ a, a < N → ∀ b, b < N → a ≠ b → (T a).2.1 ≠ (T b).2.1) (hc : xcl[ci]? = some (C, T, N)) (hk : k < N) (href : (T k).1 = C) (hfin : (T k).2.2.2 = false ∨ (meth.name = "<init>" ∧ (T k).1 = own))
    (hF : match ty with | 0 => tyF k = .int | 1 => tyF k = .char | 2 => tyF k = .boolean | 3 => tyF k = .long | 4 => tyF k = .double | _ => (tyF k).isReference = true)
    (hlink : (Cond.fieldLink own index C (T k).2.1 (T k).2.2.1).before args s = true) {z : Int} {fs : List xV} (hz : xnat z < n) (hcell : tget (9, 0, []) 10 t (xnat z) = (0, ci, fs)) {o : Nat} {y : Int} (hv : lget (99, 0) fs k = (o, y)) (ho : o ≠ 99) {u : Nat} {w : Int} (hfit : xfit ty u w = true)
    (hd : decode cc pc = .ok (.putfield index, 3)) (kk : XG p l e R s m args below meth c Q D ca ρ H0 nL (pc + 3) ls st ex n (tset (0, ci, lset (u, w) fs k) 10 t (xnat z)) a b) : XG p l e R s m args below meth c Q D ca ρ H0 nL pc ls ((u, w) :: (1, z) :: st) ex n t a b := fun H locs lsA hR hL => by
  obtain ⟨hn, hfi⟩ := xfit_ok (ρ := ρ) hF hfit
  have hlen := (xval_some (ρ := ρ) hv ho).2
  have hap := va_apart (own := own) hts hin tyF hty hnm hW.1 hc
  obtain ⟨r, h1, cell, q1, q2, q3, q4⟩ := hR.1 (xnat z) _ (xent hz hcell)
  have hr : r = (C, T, N) := Option.some.inj (h1.symm.trans hc)
  subst hr
  obtain ⟨hS, hfc, kC, hkC, hkind⟩ := hW.1.1 ci _ hc
  obtain ⟨cf, kf, fi, f, hi, hsl⟩ := hS k hk
  have hlay := hts _ (hin _ (u_in_lay hk))
  have hst := (u_facts hfc hkC (u_lays hts hin hk) hi).1
  have hi' : s.fieldFound? C (T k).2.1 (T k).2.2.1 = some (cf, kf, fi, f) := by rw [← href]; exact hi
  have fin : ∀ H' : Heap, H'[ρ.1 + xnat z]? = some (cell.setSlot f.slot (xD ρ (u, w))) → H'.size = H.size → (∀ q, q ≠ ρ.1 + xnat z → H'[q]? = H[q]?) → W p l e R s m args below meth c H' (locs ++ [⟨ρ.1 + xnat z, f.slot⟩]) a b Q (F0 m (pc + 3) lsA (st.map (xD ρ))) := by
    intro H' e1 e2 e3
    rw [hsl] at e1 ⊢
    exact kk H' _ lsA (xRel_set hR hz _ _ (xputs hc hlen rfl hap hk e1 q2 q3 q4) e2 e3) hL
  cases hff : (T k).2.2.2 with
  | false =>
    unfold u_lay at hlay
    rw [if_neg (by rw [hff]; decide)] at hlay
    have h6 := u_store hfc hkC hkind hlay hi (hty k hk) hn hfi
    exact W.putK hx hb (f := f) ⟨hown, hlink, ⟨_, _, _, hi'⟩, hst⟩ (by rw [q2]; exact h6) q1 q3 (by rw [hsl]; exact k2_hasslot (q4 k hk)) rfl rfl hd fin
  | true =>
    rcases hfin with hfin | ⟨hin2, hdecl⟩
    · rw [hff] at hfin; cases hfin
    unfold u_lay at hlay
    rw [if_pos hff] at hlay
    have hcf : m.cls = cf := by
      obtain ⟨_, _, c', _, _, _, -, -, hf', -, -, -, hown2, -⟩ := Cond.laysFinal_spec hlay
      have e1 : c' = cf := by have := hi.symm.trans hf'; simp at this; exact this.1.symm
      rw [hdecl] at hown2
      rw [← e1]; exact Option.some.inj (hown.symm.trans hown2)
    have h6 := u_fits hfc hkC hkind (Or.inr hlay) hi (hty k hk) hn hfi
    exact W.putFinK hx hb hown hlink hi' hst hcf hin2 (by rw [q2]; exact h6) q1 q3 (by rw [hsl]; exact k2_hasslot (q4 k hk)) rfl rfl hd fin
/-- a new object -/
theorem s_new (hx : p.tables.exec = Jvm.exec) (hb : c.code = cc) (hts : ∀ w ∈ xgw, w.before args s = true) (hown : s.vm.findClass own = some m.cls) (hW : xWorld D ca ρ s) {index ci : Nat} {C : String} {T : u_T} {N : Nat} {tyF : Nat → FieldType} (hin : ∀ w ∈ u_ws C T N, w ∈ xgw) (hty : ∀ k, k < N → parseFieldDescriptor (T k).2.2.1 = some (tyF k)) (hc : xcl[ci]? = some (C, T, N)) {fs : List xV} (hfs : ∀ j, j < N → (fs.map (xD ρ))[j]? = some (defaultValue (tyF j)))
    (hcl : (Cond.classLink own index C).before args s = true) (hinst : (Cond.instantiable C N).before args s = true) (hini : (Cond.initialized C).before args s = true) (hn : n < 1024) (ha : a + 1 ≤ R.cells) (hb2 : b + N ≤ R.slots)
    (hd : decode cc pc = .ok (.new index, 3)) (kk : XG p l e R s m args below meth c Q D ca ρ H0 nL (pc + 3) ls ((1, Int.ofNat n) :: st) true (n + 1) (tset (0, ci, fs) 10 t n) (a + 1) (b + N)) : XG p l e R s m args below meth c Q D ca ρ H0 nL pc ls st true n t a b := fun H locs lsA hR hL => by
  have hKn := hW.1.1 ci _ hc
  refine W.newcK hx hb hown hcl hinst hini rfl hd ha hb2 hKn.2.1 (hR.2.2.1 rfl) fun H1 kC hkC e1 z1 o1 => ?_
  have hs := hR.2.2.1 rfl
  refine kk H1 locs lsA (xRel_push hR hn (0, ci, fs) ⟨_, hc, (u_born tyF hts hin hKn hkC e1 hty).to (fun j hj => ?_)⟩ (by omega) (fun q hq => o1 q (by omega))) hL
  have h := hfs j hj
  show _ = vp_V (fs.map (xD ρ)) j
  unfold vp_V
  rw [List.getD_eq_getElem?_getD, h]
  rfl
end XR2
