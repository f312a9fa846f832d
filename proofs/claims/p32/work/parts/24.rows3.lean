/-! arrays over a picture -/
section XR3
variable {p : Program} {l : Launch} {e : Env} {R : Room} {s : State} {m : MethodId} {args : Array Value} {below : List Frame} {meth : Method} {c : Code} {Q : State → Prop} {D : va_G} {ca : Nat → ClassId} {ρ : xE} {H0 : Heap} {nL : Nat}
variable {cc : ByteArray} {pc : Nat} {ls : xL} {st : List xV} {ex : Bool} {n : Nat} {t : xT} {a b : Nat}
variable {own : String}
theorem xix {x : Int} (h0 : 0 ≤ x) (h1 : x < 2147483648) : (Int32.ofInt x).toNatClampNeg = xnat x ∧ ¬ Int32.ofInt x < 0 := by
  have e := xofInt (show -2147483648 ≤ x by omega) h1
  refine ⟨?_, fun q => ?_⟩
  · have h2 : (Int32.ofInt x).toNatClampNeg = (Int32.ofInt x).toInt.toNat := rfl
    rw [h2, e]
    cases x with
    | ofNat k => rfl
    | negSucc k => omega
  · have h2 := Int32.lt_iff_toInt_lt.mp q
    have e0 : (0 : Int32).toInt = 0 := rfl
    omega
theorem xin_of {x : Int} {N : Nat} (h0 : 0 ≤ x) (h1 : x < 2147483648) (hN : xnat x < N) : vp_in (Int32.ofInt x) N := by
  obtain ⟨e1, e2⟩ := xix h0 h1
  intro q
  rcases q with q | q
  · exact e2 q
  · rw [e1] at q; omega
theorem s_alen (hx : p.tables.exec = Jvm.exec) (hb : c.code = cc) (hW : xWorld D ca ρ s) {ty : Nat} {z : Int} {fs : List xV} (hz : xnat z < n) (hcell : tget (9, 0, []) 10 t (xnat z) = (1, ty, fs)) (hty : ty ≤ 10) (hd : decode cc pc = .ok (.arraylength, 1)) (kk : XG p l e R s m args below meth c Q D ca ρ H0 nL (pc + 1) ls ((2, Int.ofNat fs.length) :: st) ex n t a b) : XG p l e R s m args below meth c Q D ca ρ H0 nL pc ls ((1, z) :: st) ex n t a b := fun H locs lsA hR hL =>
  va_alen hx hb hW.1 hR.1 (xnat z) ty (xent1 hz hcell) (xtys_at ca hty) (v := Int32.ofInt (Int.ofNat fs.length)) rfl hd (kk H locs lsA hR hL)
theorem s_slen (hx : p.tables.exec = Jvm.exec) (hb : c.code = cc) {L : Nat} {s0 : State} (hX : va_X ρ.2.1 L ρ.2.2 s H0) (hbl : ρ.2.1 < H0.size) {z : Int} (hd : decode cc pc = .ok (.arraylength, 1)) (kk : XG p l e R s m args below meth c Q D ca ρ H0 nL (pc + 1) ls ((2, Int.ofNat L) :: st) ex n t a b) : XG p l e R s m args below meth c Q D ca ρ H0 nL pc ls ((10, z) :: st) ex n t a b := fun H locs lsA hR hL =>
  va_slen hx hb hX hbl (A := fun q => ρ.1 ≤ q) (fun q => by have h := hR.2.2.2.2; have : ρ.1 ≤ ρ.2.1 := q; omega) hR.2.2.2.1 hd (kk H locs lsA hR hL)
theorem s_sld (hx : p.tables.exec = Jvm.exec) (hb : c.code = cc) {L : Nat} (hX : va_X ρ.2.1 L ρ.2.2 s H0) (hbl : ρ.2.1 < H0.size) {z x : Int} (h0 : 0 ≤ x) (h1 : x < 2147483648) (hl : xnat x < L) {u : Nat} {w : Int} (hv : xD ρ (u, w) = .int (ρ.2.2 (xnat x))) (hd : decode cc pc = .ok (.iaload, 1)) (kk : XG p l e R s m args below meth c Q D ca ρ H0 nL (pc + 1) ls ((u, w) :: st) ex n t a b) : XG p l e R s m args below meth c Q D ca ρ H0 nL pc ls ((2, x) :: (10, z) :: st) ex n t a b := fun H locs lsA hR hL => by
  have h := kk H locs lsA hR hL
  rw [List.map_cons, hv, ← (xix h0 h1).1] at h
  exact va_sld hx hb hX hbl (A := fun q => ρ.1 ≤ q) (fun q => by have h := hR.2.2.2.2; have : ρ.1 ≤ ρ.2.1 := q; omega) hR.2.2.2.1 (xin_of h0 h1 hl) hd h
/-- from an array -/
theorem s_iald (hx : p.tables.exec = Jvm.exec) (hb : c.code = cc) (hW : xWorld D ca ρ s) {z x : Int} {fs : List xV} (hz : xnat z < n) (hcell : tget (9, 0, []) 10 t (xnat z) = (1, 0, fs)) (h0 : 0 ≤ x) (h1 : x < 2147483648) {u : Nat} {w : Int} (hv : lget (99, 0) fs (xnat x) = (u, w)) (hu : xkind u = 2) (hd : decode cc pc = .ok (.iaload, 1)) (kk : XG p l e R s m args below meth c Q D ca ρ H0 nL (pc + 1) ls ((u, w) :: st) ex n t a b) : XG p l e R s m args below meth c Q D ca ρ H0 nL pc ls ((2, x) :: (1, z) :: st) ex n t a b := fun H locs lsA hR hL => by
  obtain ⟨y, hy⟩ := xk2 (ρ := ρ) (z := w) hu
  have hlen := (xval_some (ρ := ρ) hv (by rintro rfl; cases hu)).2
  have h := kk H locs lsA hR hL
  rw [List.map_cons, hy] at h
  refine va_iald hx hb hW.1 hR.1 (xnat z) 0 (xent1 hz hcell) (xtys_at ca (by omega)) (i := Int32.ofInt x) (xin_of h0 h1 hlen) hd ?_
  rw [(xix h0 h1).1, hv, hy]
  exact h
theorem xent5 {ty : Nat} {k : Nat} {fs : List xV} (hk : k < n) (hc : tget (9, 0, []) 10 t k = (1, ty, fs)) (h5 : 5 ≤ ty) : (xW ca ρ n t)[k]? = some (ρ.1 + k, .inl (ca ty, fs.length, .inr (.inr (.inr (.inr fun j => xvq (xD ρ (lget (99, 0) fs j))))))) := by
  rw [xent1 hk hc]
  unfold xdA
  have e1 : Nat.ble ty 2 = false := by cases h : Nat.ble ty 2 with | false => rfl | true => have := Nat.le_of_ble_eq_true h; omega
  have e2 : Nat.beq ty 3 = false := by cases h : Nat.beq ty 3 with | false => rfl | true => have := Nat.eq_of_beq_eq_true h; omega
  have e3 : Nat.beq ty 4 = false := by cases h : Nat.beq ty 4 with | false => rfl | true => have := Nat.eq_of_beq_eq_true h; omega
  rw [e1, e2, e3]
  rfl
theorem xtyF5 {ty : Nat} (h5 : 5 ≤ ty) (h10 : ty ≤ 10) : xtyF ty = .object (xtyC (ty - 5)) := by
  obtain rfl | rfl | rfl | rfl | rfl | rfl : ty = 5 ∨ ty = 6 ∨ ty = 7 ∨ ty = 8 ∨ ty = 9 ∨ ty = 10 := by omega
  all_goals rfl
theorem s_aald (hx : p.tables.exec = Jvm.exec) (hb : c.code = cc) (hW : xWorld D ca ρ s) {ty : Nat} {z x : Int} {fs : List xV} (h5 : 5 ≤ ty) (h10 : ty ≤ 10) (hz : xnat z < n) (hcell : tget (9, 0, []) 10 t (xnat z) = (1, ty, fs)) (h0 : 0 ≤ x) (h1 : x < 2147483648) {u : Nat} {w : Int} (hv : lget (99, 0) fs (xnat x) = (u, w)) (hu : u ≤ 1) (hd : decode cc pc = .ok (.aaload, 1)) (kk : XG p l e R s m args below meth c Q D ca ρ H0 nL (pc + 1) ls ((u, w) :: st) ex n t a b) : XG p l e R s m args below meth c Q D ca ρ H0 nL pc ls ((2, x) :: (1, z) :: st) ex n t a b := fun H locs lsA hR hL => by
  have hlen := (xval_some (ρ := ρ) hv (by omega)).2
  have h := kk H locs lsA hR hL
  have ht := xtys_at ca h10
  rw [xtyF5 h5 h10] at ht
  refine va_aldq hx hb hW.1 hR.1 (xnat z) ty (xent5 hz hcell h5) ht (i := Int32.ofInt x) (xin_of h0 h1 hlen) hd ?_
  rw [(xix h0 h1).1, hv]
  have e : va_rf (xvq (xD ρ (u, w))) = xD ρ (u, w) := by
    match u, hu with
    | 0, _ => rfl
    | 1, _ => rfl
  rw [e]
  exact h
/-- into an array -/
theorem xupd {α : Type} {f : Value → α} {fs : List xV} {k : Nat} {v : xV} {x : α} (hk : k < fs.length) (hv : f (xD ρ v) = x) : (fun j => if j = k then x else f (xD ρ (lget (99, 0) fs j))) = fun j => f (xD ρ (lget (99, 0) (lset v fs k) j)) := by
  funext j
  rw [lget_set _ _ hk]
  by_cases h : j = k
  · rw [if_pos h, if_pos h, hv]
  · rw [if_neg h, if_neg h]
theorem xsetlen {fs : List xV} {k : Nat} {v : xV} : (lset v fs k).length = fs.length := by rw [lset_eq]; simp
theorem s_iast (hx : p.tables.exec = Jvm.exec) (hb : c.code = cc) (hW : xWorld D ca ρ s) {z x : Int} {fs : List xV} (hz : xnat z < n) (hcell : tget (9, 0, []) 10 t (xnat z) = (1, 0, fs)) (h0 : 0 ≤ x) (h1 : x < 2147483648) {o : Nat} {y : Int} (hv : lget (99, 0) fs (xnat x) = (o, y)) (ho : o ≠ 99) {u : Nat} {w : Int} (hfit : xkind u = 2) (hd : decode cc pc = .ok (.iastore, 1)) (kk : XG p l e R s m args below meth c Q D ca ρ H0 nL (pc + 1) ls st ex n (tset (1, 0, lset (u, w) fs (xnat x)) 10 t (xnat z)) a b) : XG p l e R s m args below meth c Q D ca ρ H0 nL pc ls ((u, w) :: (2, x) :: (1, z) :: st) ex n t a b := fun H locs lsA hR hL => by
  obtain ⟨q, hq⟩ := xk2 (ρ := ρ) (z := w) hfit
  have hlen := (xval_some (ρ := ρ) hv ho).2
  have ha := xent1 (ca := ca) (ρ := ρ) hz hcell
  rw [List.map_cons, hq]
  refine W.iast hx hb (hR.1 (xnat z) _ ha) ((hW.1.2 0 _ (xtys_at ca (by omega))).1 fs.length (fun j => .int (xvi (xD ρ (lget (99, 0) fs j))))) (fun q => by cases q) (j := Int32.ofInt x) (by show ¬ (_ ∨ (arrV _ _ _).slots.size ≤ _); rw [arrV_size]; exact xin_of h0 h1 hlen) rfl rfl hd fun H1 e1 z1 oq => ?_
  refine kk H1 _ lsA (xRel_set hR hz _ _ ?_ z1 oq) hL
  show H1[ρ.1 + xnat z]? = some (vp_cell (ca 0) ((lset (u, w) fs (xnat x)).length, .inl fun j => xvi (xD ρ (lget (99, 0) (lset (u, w) fs (xnat x)) j))))
  rw [e1, vp_cell_i, xsetlen, (xix h0 h1).1]
  show some ((arrV (ca 0) fs.length fun j => .int (xvi (xD ρ (lget (99, 0) fs j)))).setSlot (xnat x) (.int q)) = _
  rw [arrV_store]
  refine congrArg (fun f => some (arrV _ fs.length f)) (funext fun j => ?_)
  show (if j = xnat x then Value.int q else Value.int (xvi (xD ρ (lget (99, 0) fs j)))) = Value.int (xvi (xD ρ (lget (99, 0) (lset (u, w) fs (xnat x)) j)))
  rw [lget_set _ _ hlen]
  by_cases hj : j = xnat x
  · rw [if_pos hj, if_pos hj, hq]; rfl
  · rw [if_neg hj, if_neg hj]
theorem s_aast (hx : p.tables.exec = Jvm.exec) (hb : c.code = cc) (hW : xWorld D ca ρ s) {ty ci : Nat} {C : String} {T : u_T} {N : Nat} {z x y2 : Int} {fs gs : List xV} (h5 : 5 ≤ ty) (h10 : ty ≤ 10) (hcl : xcl[ci]? = some (C, T, N)) (hC : C = xtyC (ty - 5)) (hz : xnat z < n) (hcell : tget (9, 0, []) 10 t (xnat z) = (1, ty, fs)) (h0 : 0 ≤ x) (h1 : x < 2147483648) {o : Nat} {y : Int} (hv : lget (99, 0) fs (xnat x) = (o, y)) (ho : o ≠ 99) (hy : xnat y2 < n) (hcell2 : tget (9, 0, []) 10 t (xnat y2) = (0, ci, gs))
    (hd : decode cc pc = .ok (.aastore, 1)) (kk : XG p l e R s m args below meth c Q D ca ρ H0 nL (pc + 1) ls st ex n (tset (1, ty, lset (1, y2) fs (xnat x)) 10 t (xnat z)) a b) : XG p l e R s m args below meth c Q D ca ρ H0 nL pc ls ((1, y2) :: (2, x) :: (1, z) :: st) ex n t a b := fun H locs lsA hR hL => by
  have hlen := (xval_some (ρ := ρ) hv ho).2
  have ha := xent5 (ca := ca) (ρ := ρ) hz hcell h5
  have ht := xtys_at ca h10
  rw [xtyF5 h5 h10, ← hC] at ht
  have hv2 := xent (ca := ca) (ρ := ρ) hy hcell2
  obtain ⟨r', hr', cellV, g1, g2, g3, -⟩ := hR.1 (xnat y2) _ hv2
  have hcls := (hW.1.1 ci _ hcl).2
  obtain ⟨kA, comp, k1, k2, k3, -⟩ := (hW.1.2 ty _ ht).2
  have hcomp : comp = D.1 ci := Option.some.inj (k3.symm.trans hcls.1)
  subst hcomp
  obtain ⟨kC, hkC, -⟩ := hcls.2
  have hin := xin_of h0 h1 hlen
  refine W.aast hx hb (hR.1 (xnat z) _ ha) (fun q h => by cases h) (fun h => by cases h) k1 k2 rfl hkC (j := Int32.ofInt x) ⟨fun q => hin (Or.inl q), by show _ < (arrV _ _ _).slots.size; rw [arrV_size]; exact Nat.not_le.mp fun q => hin (Or.inr q)⟩ g1 (fun q h => by rw [g3] at h; cases h) (by rw [g2]; exact hkC) (by rw [g2]; exact va_assign hcls) rfl rfl hd fun H1 e1 z1 oq => ?_
  refine kk H1 _ lsA (xRel_set hR hz _ _ ?_ z1 oq) hL
  have e9 : xdC ca ρ (1, ty, lset (1, y2) fs (xnat x)) = .inl (ca ty, (lset (1, y2) fs (xnat x)).length, .inr (.inr (.inr (.inr fun j => xvq (xD ρ (lget (99, 0) (lset (1, y2) fs (xnat x)) j)))))) := by
    have h := xent5 (ca := ca) (ρ := ρ) (n := n) (t := tset (1, ty, lset (1, y2) fs (xnat x)) 10 t (xnat z)) (k := xnat z) (ty := ty) (fs := lset (1, y2) fs (xnat x)) hz (by rw [tget_set _ _ 10 _ _ _ (by have := hR.2.1; omega) (by have := hR.2.1; omega), if_pos rfl]) h5
    rw [xent1 (ty := ty) (fs := lset (1, y2) fs (xnat x)) hz (by rw [tget_set _ _ 10 _ _ _ (by have := hR.2.1; omega) (by have := hR.2.1; omega), if_pos rfl])] at h
    exact congrArg Prod.snd (Option.some.inj h)
  rw [e9]
  show H1[ρ.1 + xnat z]? = some (vp_cell _ _)
  rw [e1, vp_cell_q, xsetlen, (xix h0 h1).1]
  show some ((arrV (ca ty) fs.length fun j => va_rf (xvq (xD ρ (lget (99, 0) fs j)))).setSlot (xnat x) (.ref (ρ.1 + xnat y2))) = some (arrV (ca ty) fs.length fun j => va_rf (xvq (xD ρ (lget (99, 0) (lset (1, y2) fs (xnat x)) j))))
  rw [arrV_store]
  refine congrArg (fun f => some (arrV _ fs.length f)) (funext fun j => ?_)
  show (if j = xnat x then Value.ref (ρ.1 + xnat y2) else va_rf (xvq (xD ρ (lget (99, 0) fs j)))) = va_rf (xvq (xD ρ (lget (99, 0) (lset (1, y2) fs (xnat x)) j)))
  rw [lget_set _ _ hlen]
  by_cases hj : j = xnat x
  · rw [if_pos hj, if_pos hj]; rfl
  · rw [if_neg hj, if_neg hj]
/-- new arrays -/
theorem xrep {k : Nat} {v : xV} {j : Nat} (h : j < k) : lget (99, 0) (lrep v k) j = v := by
  rw [lrep_eq]
  exact lget_of (by simp [h])
theorem s_newa (hx : p.tables.exec = Jvm.exec) (hb : c.code = cc) (hW : xWorld D ca ρ s) {ty : Nat} {at_ : ArrayType} {z : Int} (hty : ty ≤ 1) (hat : newarray.typeOf at_ = xtyF ty) (harr : (Cond.arrayClass (newarray.typeOf at_)).before args s = true) (h0 : 0 ≤ z) (h1 : z < 100000) (hn : n < 1024) (ha : a + 1 ≤ R.cells) (hb2 : b + xnat z ≤ R.slots) (hd : decode cc pc = .ok (.newarray at_, 2))
    (kk : XG p l e R s m args below meth c Q D ca ρ H0 nL (pc + 2) ls ((1, Int.ofNat n) :: st) true (n + 1) (tset (1, ty, lrep (xdflt ty) (xnat z)) 10 t n) (a + 1) (b + xnat z)) : XG p l e R s m args below meth c Q D ca ρ H0 nL pc ls ((2, z) :: st) true n t a b := fun H locs lsA hR hL => by
  have hs := hR.2.2.1 rfl
  obtain ⟨e1, e2⟩ := xix h0 (show z < 2147483648 by omega)
  have hz : (xnat z : Int) = z := xnat_of h0
  have hb8 : xnat z * componentBytes (newarray.typeOf at_) ≤ 536870912 := by
    have h8 : componentBytes (newarray.typeOf at_) ≤ 8 := by cases at_ <;> decide
    have h9 : xnat z * componentBytes (newarray.typeOf at_) ≤ 100000 * 8 := Nat.mul_le_mul (by omega) h8
    omega
  refine va_newaK hx hb harr (n := Int32.ofInt z) rfl hd rfl e2 e1 hb8 ha hb2 hs fun H1 cA e9 z1 o1 hAr hNm => ?_
  have hcA : cA = ca ty := by
    have h := (hW.1.2 ty _ (xtys_at ca (by omega))).2
    rw [hat] at hNm
    obtain rfl | rfl : ty = 0 ∨ ty = 1 := by omega
    all_goals exact Option.some.inj (hNm.symm.trans h)
  subst hcA
  refine kk H1 locs lsA (xRel_push hR hn _ ?_ (by omega) (fun q hq => o1 q (by omega))) hL
  rw [hat] at e9
  have hl : (lrep (xdflt ty) (xnat z)).length = xnat z := by rw [lrep_eq]; simp
  have fin : ∀ (f g : Nat → Value), (∀ j, j < xnat z → f j = g j) → arrV (ca ty) (xnat z) f = arrV (ca ty) (xnat z) g := by
    intro f g h
    unfold arrV
    congr 1
    apply Array.ext
    · simp
    · intro i h1 h2
      have : i < xnat z := by simpa using h1
      simp [h i this]
  obtain rfl | rfl : ty = 0 ∨ ty = 1 := by omega
  · show H1[ρ.1 + n]? = some (vp_cell (ca 0) ((lrep (xdflt 0) (xnat z)).length, .inl fun j => xvi (xD ρ (lget (99, 0) (lrep (xdflt 0) (xnat z)) j))))
    rw [e9, vp_cell_i, hl]
    exact congrArg some (fin _ _ fun j hj => by rw [xrep hj]; rfl)
  · show H1[ρ.1 + n]? = some (vp_cell (ca 1) ((lrep (xdflt 1) (xnat z)).length, .inl fun j => xvi (xD ρ (lget (99, 0) (lrep (xdflt 1) (xnat z)) j))))
    rw [e9, vp_cell_i, hl]
    exact congrArg some (fin _ _ fun j hj => by rw [xrep hj]; rfl)
theorem s_newq (hx : p.tables.exec = Jvm.exec) (hb : c.code = cc) (hown : s.vm.findClass own = some m.cls) (hW : xWorld D ca ρ s) {ty index : Nat} {z : Int} (h5 : 5 ≤ ty) (h10 : ty ≤ 10) (hclink : (Cond.classLink own index (xtyC (ty - 5))).before args s = true) (h0 : 0 ≤ z) (h1 : z < 100000) (hn : n < 1024) (ha : a + 1 ≤ R.cells) (hb2 : b + xnat z ≤ R.slots) (hd : decode cc pc = .ok (.anewarray index, 3))
    (kk : XG p l e R s m args below meth c Q D ca ρ H0 nL (pc + 3) ls ((1, Int.ofNat n) :: st) true (n + 1) (tset (1, ty, lrep (xdflt ty) (xnat z)) 10 t n) (a + 1) (b + xnat z)) : XG p l e R s m args below meth c Q D ca ρ H0 nL pc ls ((2, z) :: st) true n t a b := fun H locs lsA hR hL => by
  have hs := hR.2.2.1 rfl
  obtain ⟨e1, e2⟩ := xix h0 (show z < 2147483648 by omega)
  have hz : (xnat z : Int) = z := xnat_of h0
  have hao : va_AO (xtyC (ty - 5)) s := hW.2.2.1 (ty - 5) (by omega)
  refine W.anew hx hb hown hclink (va_AO.use hao) rfl hd (n := Int32.ofInt z) rfl e2 (by rw [e1]; omega) ha (by rw [e1]; exact hb2) fun cA kA comp f1 f2 f3 f4 => ?_
  have ht := xtys_at ca h10
  rw [xtyF5 h5 h10] at ht
  obtain ⟨-, -, -, -, -, hNm⟩ := (hW.1.2 ty _ ht).2
  have hcA : cA = ca ty := Option.some.inj (f1.symm.trans hNm)
  subst hcA
  rw [e1]
  generalize hH1 : H.push ({ cls := ca ty, slots := Array.replicate (xnat z) .null, vm := .none } : Cell) = H1
  have z1 : H1.size = H.size + 1 := by rw [← hH1, Array.size_push]
  have e9 : H1[H.size]? = some (arrV (ca ty) (xnat z) (fun _ => .null)) := by rw [← hH1, Array.getElem?_push_size, ← arrV_new]
  have o1 : ∀ q : Nat, q < H.size → H1[q]? = H[q]? := fun q hq => by rw [← hH1, Array.getElem?_push, if_neg (Nat.ne_of_lt hq)]
  rw [hs] at e9 ⊢
  refine kk H1 locs lsA (xRel_push hR hn _ ?_ (by omega) (fun q hq => o1 q (by omega))) hL
  have hxd : xdflt ty = (0, Int.ofNat 0) := by
    obtain rfl | rfl | rfl | rfl | rfl | rfl : ty = 5 ∨ ty = 6 ∨ ty = 7 ∨ ty = 8 ∨ ty = 9 ∨ ty = 10 := by omega
    all_goals rfl
  have e8 : xdC ca ρ (1, ty, lrep (xdflt ty) (xnat z)) = .inl (ca ty, (lrep (xdflt ty) (xnat z)).length, .inr (.inr (.inr (.inr fun j => xvq (xD ρ (lget (99, 0) (lrep (xdflt ty) (xnat z)) j)))))) := by
    have h := xent5 (ca := ca) (ρ := ρ) (n := n + 1) (t := tset (1, ty, lrep (xdflt ty) (xnat z)) 10 t n) (k := n) (ty := ty) (fs := lrep (xdflt ty) (xnat z)) (by omega) (by rw [tget_set _ _ 10 _ _ _ (by omega) (by omega), if_pos rfl]) h5
    rw [xent1 (ty := ty) (fs := lrep (xdflt ty) (xnat z)) (by omega) (by rw [tget_set _ _ 10 _ _ _ (by omega) (by omega), if_pos rfl])] at h
    exact congrArg Prod.snd (Option.some.inj h)
  rw [e8]
  show H1[ρ.1 + n]? = some (vp_cell _ _)
  have hl : (lrep (xdflt ty) (xnat z)).length = xnat z := by rw [lrep_eq]; simp
  rw [e9, vp_cell_q, hl]
  unfold arrV
  congr 2
  apply Array.ext
  · simp
  · intro i h1 h2
    have hi : i < xnat z := by simpa using h1
    simp only [Array.getElem_ofFn]
    rw [xrep hi, hxd]
    rfl
/-- Object's own constructor -/
theorem s_obj (hx : p.tables.exec = Jvm.exec) (hb : c.code = cc) (hown : s.vm.findClass own = some m.cls) (hml : c.maxLocals = nL) {index : Nat} {z : Int} (hl : (Cond.methodLink own index objectInit).before args s = true) (hi : (Cond.instanceMethod objectInit).before args s = true) (hco : (Cond.code objectInit ⟨#[0xb1]⟩ 1 none).before args s = true) (hf : 1 ≤ R.frames) (hlo : 20 ≤ R.locals) (hsum : xsum st ≤ 8) (hd : decode cc pc = .ok (.invokespecial index, 3)) (kk : XG p l e R s m args below meth c Q D ca ρ H0 nL (pc + 3) ls st ex n t a b) : XG p l e R s m args below meth c Q D ca ρ H0 nL pc ls ((1, z) :: st) ex n t a b := fun H locs lsA hR hL => by
  have h8 := lv_room (m := m) (pc := pc) (ls := lsA) (rest := ((1, z) :: st).map (xD ρ)) (st := st.map (xD ρ)) (by rw [xsum_eq]; exact hsum)
  exact W.objInit hx hb hown hl hi hco rfl (by rw [show (F0 m pc lsA (((1, z) :: st).map (xD ρ))).locals.size = nL from hL.1]; exact hml.symm) rfl hd hf (by omega) (kk H locs lsA hR hL)
end XR3
