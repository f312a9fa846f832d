/-! ONE ROW AN INSTRUCTION over a picture -/
def XG (p : Program) (l : Launch) (e : Env) (R : Room) (s : State) (m : MethodId) (args : Array Value) (below : List Frame) (meth : Method) (c : Code) (Q : State → Prop) (D : va_G) (ca : Nat → ClassId) (ρ : xE) (H0 : Heap) (nL : Nat) (pc : Nat) (ls : xL) (st : List xV) (ex : Bool) (n : Nat) (t : xT) (a b : Nat) : Prop :=
  ∀ (H : Heap) (locs : List Loc) (lsA : Array Slot), xRel D ca ρ H0 ex n t H locs → lv_has lsA nL (xM ρ ls) → W p l e R s m args below meth c H locs a b Q (F0 m pc lsA (st.map (xD ρ)))
section XR
variable {p : Program} {l : Launch} {e : Env} {R : Room} {s : State} {m : MethodId} {args : Array Value} {below : List Frame} {meth : Method} {c : Code} {Q : State → Prop} {D : va_G} {ca : Nat → ClassId} {ρ : xE} {H0 : Heap} {nL : Nat}
variable {cc : ByteArray} {pc : Nat} {ls : xL} {st : List xV} {ex : Bool} {n : Nat} {t : xT} {a b : Nat}
theorem xl_at {lsA : Array Slot} (hL : lv_has lsA nL (xM ρ ls)) {k i : Nat} {z : Int} (hm : (k, i, z) ∈ ls) : lsA[k]? = some (.val (xD ρ (i, z))) := hL.2.2 (k, xD ρ (i, z)) (List.mem_map.mpr ⟨_, hm, rfl⟩)
theorem lv_weak {lsA : Array Slot} {l1 l2 : List (Nat × Value)} (h : lv_has lsA nL l1) (hs : ∀ q ∈ l2, q ∈ l1) : lv_has lsA nL l2 := ⟨h.1, h.2.1, fun q hq => h.2.2 q (hs q hq)⟩
theorem xfilt_mem {f : Nat × xV → Bool} {q : Nat × xV} : ∀ {l : xL}, q ∈ xfilt f l → q ∈ l ∧ f q = true
  | [], h => by cases h
  | x :: l, h => by
    have h' : q ∈ cond (f x) (x :: xfilt f l) (xfilt f l) := h
    cases hf : f x with
    | true =>
      rw [hf] at h'
      rcases List.mem_cons.mp h' with rfl | h2
      · exact ⟨List.mem_cons_self, hf⟩
      · exact ⟨List.mem_cons_of_mem _ (xfilt_mem h2).1, (xfilt_mem h2).2⟩
    | false =>
      rw [hf] at h'
      exact ⟨List.mem_cons_of_mem _ (xfilt_mem h').1, (xfilt_mem h').2⟩
theorem xkeep_ok {i k : Nat} {q : Nat × xV} (h : xkeep i k q = true) : q.1 ≠ i ∧ (q.1 + 1 = i → xtwo q.2.1 = false) ∧ (q.1 = i + 1 → xtwo k = false) := by
  unfold xkeep at h
  cases h1 : Nat.beq q.1 i with
  | true => rw [h1] at h; cases h
  | false =>
    rw [h1] at h
    refine ⟨Nat.ne_of_beq_eq_false h1, fun h2 => ?_, fun h2 => ?_⟩
    · have e : Nat.beq (Nat.succ q.1) i = true := by rw [show Nat.succ q.1 = i from h2]; exact Nat.beq_refl _
      rw [e] at h
      cases h3 : xtwo q.2.1 with
      | false => rfl
      | true => rw [h3] at h; cases h
    · have e : Nat.beq q.1 (Nat.succ i) = true := by rw [h2]; exact Nat.beq_refl _
      rw [e] at h
      cases h3 : xtwo k with
      | false => rfl
      | true =>
        rw [h3] at h
        revert h
        cases cond (Nat.beq (Nat.succ q.1) i) (xtwo q.2.1) false <;> intro h <;> cases h
/-- the locals behind the store of a value of one slot -/
theorem xst1 {lsA : Array Slot} {i k : Nat} {z : Int} (hL : lv_has lsA nL ((i, xD ρ (k, z)) :: (xM ρ ls).filter (fun q => !(q.1 == i) && !(q.1 + 1 == i && q.2.category == 2)))) : lv_has lsA nL (xM ρ ((i, k, z) :: xfilt (xkeep i k) ls)) := by
  refine lv_weak hL fun q hq => ?_
  rcases List.mem_cons.mp hq with rfl | hq
  · exact List.mem_cons_self
  · obtain ⟨x, hx, rfl⟩ := List.mem_map.mp hq
    obtain ⟨h1, h2⟩ := xfilt_mem hx
    obtain ⟨g1, g2, -⟩ := xkeep_ok h2
    refine List.mem_cons_of_mem _ (List.mem_filter.mpr ⟨List.mem_map.mpr ⟨x, h1, rfl⟩, ?_⟩)
    show (!(x.1 == i) && !(x.1 + 1 == i && (xD ρ x.2).category == 2)) = true
    have e1 : (x.1 == i) = false := by simpa using g1
    rw [e1]
    by_cases h3 : x.1 + 1 = i
    · have e2 : (xD ρ x.2).category = 1 := xcat1 (g2 h3)
      simp [e2]
    · have e2 : (x.1 + 1 == i) = false := by simpa using h3
      simp [e2]
theorem xst2 {lsA : Array Slot} {i k : Nat} {z : Int} (hk : xtwo k = true) (hL : lv_has lsA nL ((i, xD ρ (k, z)) :: (xM ρ ls).filter (fun q => !(q.1 == i) && (!(q.1 == i + 1) && !(q.1 + 1 == i && q.2.category == 2))))) : lv_has lsA nL (xM ρ ((i, k, z) :: xfilt (xkeep i k) ls)) := by
  refine lv_weak hL fun q hq => ?_
  rcases List.mem_cons.mp hq with rfl | hq
  · exact List.mem_cons_self
  · obtain ⟨x, hx, rfl⟩ := List.mem_map.mp hq
    obtain ⟨h1, h2⟩ := xfilt_mem hx
    obtain ⟨g1, g2, g3⟩ := xkeep_ok h2
    refine List.mem_cons_of_mem _ (List.mem_filter.mpr ⟨List.mem_map.mpr ⟨x, h1, rfl⟩, ?_⟩)
    show (!(x.1 == i) && (!(x.1 == i + 1) && !(x.1 + 1 == i && (xD ρ x.2).category == 2))) = true
    have e1 : (x.1 == i) = false := by simpa using g1
    have e3 : (x.1 == i + 1) = false := by
      have : x.1 ≠ i + 1 := fun q => by rw [g3 q] at hk; cases hk
      simpa using this
    rw [e1, e3]
    by_cases h3 : x.1 + 1 = i
    · have e2 : (xD ρ x.2).category = 1 := xcat1 (g2 h3)
      simp [e2]
    · have e2 : (x.1 + 1 == i) = false := by simpa using h3
      simp [e2]
/-! constants -/
theorem s_iconst (hx : p.tables.exec = Jvm.exec) (hb : c.code = cc) {k : Int} (hd : decode cc pc = .ok (.iconst k, 1)) (kk : XG p l e R s m args below meth c Q D ca ρ H0 nL (pc + 1) ls ((2, k) :: st) ex n t a b) : XG p l e R s m args below meth c Q D ca ρ H0 nL pc ls st ex n t a b := fun H locs lsA hR hL => lv_iconst hx hb hd rfl (kk H locs lsA hR hL)
theorem s_bipush (hx : p.tables.exec = Jvm.exec) (hb : c.code = cc) {k : Int} (hd : decode cc pc = .ok (.bipush k, 2)) (hk : (Int8.ofInt k).toInt32 = Int32.ofInt k) (kk : XG p l e R s m args below meth c Q D ca ρ H0 nL (pc + 2) ls ((2, k) :: st) ex n t a b) : XG p l e R s m args below meth c Q D ca ρ H0 nL pc ls st ex n t a b := fun H locs lsA hR hL => lv_bipush hx hb hd hk (kk H locs lsA hR hL)
theorem s_sipush (hx : p.tables.exec = Jvm.exec) (hb : c.code = cc) {k : Int} (hd : decode cc pc = .ok (.sipush k, 3)) (hk : (Int16.ofInt k).toInt32 = Int32.ofInt k) (kk : XG p l e R s m args below meth c Q D ca ρ H0 nL (pc + 3) ls ((2, k) :: st) ex n t a b) : XG p l e R s m args below meth c Q D ca ρ H0 nL pc ls st ex n t a b := fun H locs lsA hR hL => lv_sipush hx hb hd hk (kk H locs lsA hR hL)
theorem xfin2 (k : Fin 2) : k = 0 ∨ k = 1 := by
  rcases k with ⟨k, hk⟩
  have : k = 0 ∨ k = 1 := by omega
  rcases this with rfl | rfl
  · exact Or.inl rfl
  · exact Or.inr rfl
theorem s_lconst (hx : p.tables.exec = Jvm.exec) (hb : c.code = cc) {k : Fin 2} (hd : decode cc pc = .ok (.lconst k, 1)) (kk : XG p l e R s m args below meth c Q D ca ρ H0 nL (pc + 1) ls ((3, Int.ofNat k.val) :: st) ex n t a b) : XG p l e R s m args below meth c Q D ca ρ H0 nL pc ls st ex n t a b := fun H locs lsA hR hL => by
  refine lv_lconst hx hb hd (v := Int64.ofInt (Int.ofNat k.val)) ?_ (kk H locs lsA hR hL)
  rcases xfin2 k with rfl | rfl <;> rfl
theorem s_dconst (hx : p.tables.exec = Jvm.exec) (hb : c.code = cc) {k : Fin 2} (hd : decode cc pc = .ok (.dconst k, 1)) (kk : XG p l e R s m args below meth c Q D ca ρ H0 nL (pc + 1) ls ((4, Int.ofNat k.val) :: st) ex n t a b) : XG p l e R s m args below meth c Q D ca ρ H0 nL pc ls st ex n t a b := fun H locs lsA hR hL => by
  rcases xfin2 k with rfl | rfl
  · exact lv_dconst0 hx hb hd (kk H locs lsA hR hL)
  · exact lv_dconst1 hx hb hd (kk H locs lsA hR hL)
theorem s_fconst (hx : p.tables.exec = Jvm.exec) (hb : c.code = cc) {k : Fin 3} (hk : k.val = 0) (hd : decode cc pc = .ok (.fconst k, 1)) (kk : XG p l e R s m args below meth c Q D ca ρ H0 nL (pc + 1) ls ((11, Int.ofNat 0) :: st) ex n t a b) : XG p l e R s m args below meth c Q D ca ρ H0 nL pc ls st ex n t a b := fun H locs lsA hR hL => by
  have : k = 0 := Fin.ext hk
  subst this
  exact lv_fconst0 hx hb hd (kk H locs lsA hR hL)
theorem s_null (hx : p.tables.exec = Jvm.exec) (hb : c.code = cc) (hd : decode cc pc = .ok (.aconst_null, 1)) (kk : XG p l e R s m args below meth c Q D ca ρ H0 nL (pc + 1) ls ((0, Int.ofNat 0) :: st) ex n t a b) : XG p l e R s m args below meth c Q D ca ρ H0 nL pc ls st ex n t a b := fun H locs lsA hR hL => lv_null hx hb hd (kk H locs lsA hR hL)
/-! locals -/
theorem s_iload (hx : p.tables.exec = Jvm.exec) (hb : c.code = cc) {i k : Nat} {z : Int} (hd : decode cc pc = .ok (.iload i, 2)) (hm : (i, k, z) ∈ ls) (hk : xkind k = 2) (kk : XG p l e R s m args below meth c Q D ca ρ H0 nL (pc + 2) ls ((k, z) :: st) ex n t a b) : XG p l e R s m args below meth c Q D ca ρ H0 nL pc ls st ex n t a b := fun H locs lsA hR hL => by
  obtain ⟨x, h⟩ := xk2 (ρ := ρ) (z := z) hk
  have h2 := kk H locs lsA hR hL
  have h1 := xl_at hL hm
  rw [List.map_cons, h] at h2
  rw [h] at h1
  exact lv_iload hx hb hd h1 h2
theorem s_iloadn (hx : p.tables.exec = Jvm.exec) (hb : c.code = cc) {i : Fin 4} {k : Nat} {z : Int} (hd : decode cc pc = .ok (.iload_n i, 1)) (hm : (i.val, k, z) ∈ ls) (hk : xkind k = 2) (kk : XG p l e R s m args below meth c Q D ca ρ H0 nL (pc + 1) ls ((k, z) :: st) ex n t a b) : XG p l e R s m args below meth c Q D ca ρ H0 nL pc ls st ex n t a b := fun H locs lsA hR hL => by
  obtain ⟨x, h⟩ := xk2 (ρ := ρ) (z := z) hk
  have h2 := kk H locs lsA hR hL
  have h1 := xl_at hL hm
  rw [List.map_cons, h] at h2
  rw [h] at h1
  exact lv_iload_n hx hb hd rfl h1 h2
theorem s_lload (hx : p.tables.exec = Jvm.exec) (hb : c.code = cc) {i k : Nat} {z : Int} (hd : decode cc pc = .ok (.lload i, 2)) (hm : (i, k, z) ∈ ls) (hk : xkind k = 3) (kk : XG p l e R s m args below meth c Q D ca ρ H0 nL (pc + 2) ls ((k, z) :: st) ex n t a b) : XG p l e R s m args below meth c Q D ca ρ H0 nL pc ls st ex n t a b := fun H locs lsA hR hL => by
  obtain ⟨x, h⟩ := xk3 (ρ := ρ) (z := z) hk
  have h2 := kk H locs lsA hR hL
  have h1 := xl_at hL hm
  rw [List.map_cons, h] at h2
  rw [h] at h1
  exact lv_lload hx hb hd h1 h2
theorem s_lloadn (hx : p.tables.exec = Jvm.exec) (hb : c.code = cc) {i : Fin 4} {k : Nat} {z : Int} (hd : decode cc pc = .ok (.lload_n i, 1)) (hm : (i.val, k, z) ∈ ls) (hk : xkind k = 3) (kk : XG p l e R s m args below meth c Q D ca ρ H0 nL (pc + 1) ls ((k, z) :: st) ex n t a b) : XG p l e R s m args below meth c Q D ca ρ H0 nL pc ls st ex n t a b := fun H locs lsA hR hL => by
  obtain ⟨x, h⟩ := xk3 (ρ := ρ) (z := z) hk
  have h2 := kk H locs lsA hR hL
  have h1 := xl_at hL hm
  rw [List.map_cons, h] at h2
  rw [h] at h1
  exact lv_lload_n hx hb hd rfl h1 h2
theorem s_dload (hx : p.tables.exec = Jvm.exec) (hb : c.code = cc) {i k : Nat} {z : Int} (hd : decode cc pc = .ok (.dload i, 2)) (hm : (i, k, z) ∈ ls) (hk : xkind k = 4) (kk : XG p l e R s m args below meth c Q D ca ρ H0 nL (pc + 2) ls ((k, z) :: st) ex n t a b) : XG p l e R s m args below meth c Q D ca ρ H0 nL pc ls st ex n t a b := fun H locs lsA hR hL => by
  obtain ⟨x, h⟩ := xk4 (ρ := ρ) (z := z) hk
  have h2 := kk H locs lsA hR hL
  have h1 := xl_at hL hm
  rw [List.map_cons, h] at h2
  rw [h] at h1
  exact lv_dload hx hb hd h1 h2
theorem s_dloadn (hx : p.tables.exec = Jvm.exec) (hb : c.code = cc) {i : Fin 4} {k : Nat} {z : Int} (hd : decode cc pc = .ok (.dload_n i, 1)) (hm : (i.val, k, z) ∈ ls) (hk : xkind k = 4) (kk : XG p l e R s m args below meth c Q D ca ρ H0 nL (pc + 1) ls ((k, z) :: st) ex n t a b) : XG p l e R s m args below meth c Q D ca ρ H0 nL pc ls st ex n t a b := fun H locs lsA hR hL => by
  obtain ⟨x, h⟩ := xk4 (ρ := ρ) (z := z) hk
  have h2 := kk H locs lsA hR hL
  have h1 := xl_at hL hm
  rw [List.map_cons, h] at h2
  rw [h] at h1
  exact lv_dload_n hx hb hd rfl h1 h2
theorem s_aload (hx : p.tables.exec = Jvm.exec) (hb : c.code = cc) {i k : Nat} {z : Int} (hd : decode cc pc = .ok (.aload i, 2)) (hm : (i, k, z) ∈ ls) (hk : xkind k ≤ 1) (kk : XG p l e R s m args below meth c Q D ca ρ H0 nL (pc + 2) ls ((k, z) :: st) ex n t a b) : XG p l e R s m args below meth c Q D ca ρ H0 nL pc ls st ex n t a b := fun H locs lsA hR hL => by
  have h2 := kk H locs lsA hR hL
  have h1 := xl_at hL hm
  rcases xk1 (ρ := ρ) (z := z) hk with h | ⟨x, h⟩
  · rw [List.map_cons, h] at h2
    rw [h] at h1
    exact lv_aloadN hx hb hd h1 h2
  · rw [List.map_cons, h] at h2
    rw [h] at h1
    exact lv_aload hx hb hd h1 h2
theorem s_aloadn (hx : p.tables.exec = Jvm.exec) (hb : c.code = cc) {i : Fin 4} {k : Nat} {z : Int} (hd : decode cc pc = .ok (.aload_n i, 1)) (hm : (i.val, k, z) ∈ ls) (hk : xkind k ≤ 1) (kk : XG p l e R s m args below meth c Q D ca ρ H0 nL (pc + 1) ls ((k, z) :: st) ex n t a b) : XG p l e R s m args below meth c Q D ca ρ H0 nL pc ls st ex n t a b := fun H locs lsA hR hL => by
  have h2 := kk H locs lsA hR hL
  have h1 := xl_at hL hm
  rcases xk1 (ρ := ρ) (z := z) hk with h | ⟨x, h⟩
  · rw [List.map_cons, h] at h2
    rw [h] at h1
    exact lv_aload_nN hx hb hd rfl h1 h2
  · rw [List.map_cons, h] at h2
    rw [h] at h1
    exact lv_aload_n hx hb hd rfl h1 h2
theorem s_istore (hx : p.tables.exec = Jvm.exec) (hb : c.code = cc) {i k : Nat} {z : Int} (hd : decode cc pc = .ok (.istore i, 2)) (hi : i < nL) (hk : xkind k = 2) (kk : XG p l e R s m args below meth c Q D ca ρ H0 nL (pc + 2) ((i, k, z) :: xfilt (xkeep i k) ls) st ex n t a b) : XG p l e R s m args below meth c Q D ca ρ H0 nL pc ls ((k, z) :: st) ex n t a b := fun H locs lsA hR hL => by
  obtain ⟨x, h⟩ := xk2 (ρ := ρ) (z := z) hk
  rw [List.map_cons, h]
  exact lv_istore hx hb hd hL hi rfl fun ls' h' => kk H locs ls' hR (xst1 (by rw [h]; exact h'))
theorem s_istoren (hx : p.tables.exec = Jvm.exec) (hb : c.code = cc) {i : Fin 4} {k : Nat} {z : Int} (hd : decode cc pc = .ok (.istore_n i, 1)) (hi : i.val < nL) (hk : xkind k = 2) (kk : XG p l e R s m args below meth c Q D ca ρ H0 nL (pc + 1) ((i.val, k, z) :: xfilt (xkeep i.val k) ls) st ex n t a b) : XG p l e R s m args below meth c Q D ca ρ H0 nL pc ls ((k, z) :: st) ex n t a b := fun H locs lsA hR hL => by
  obtain ⟨x, h⟩ := xk2 (ρ := ρ) (z := z) hk
  rw [List.map_cons, h]
  exact lv_istore_n hx hb hd rfl hL hi rfl fun ls' h' => kk H locs ls' hR (xst1 (by rw [h]; exact h'))
theorem s_fstore (hx : p.tables.exec = Jvm.exec) (hb : c.code = cc) {i k : Nat} {z : Int} (hd : decode cc pc = .ok (.fstore i, 2)) (hi : i < nL) (hk : xkind k = 5) (kk : XG p l e R s m args below meth c Q D ca ρ H0 nL (pc + 2) ((i, k, z) :: xfilt (xkeep i k) ls) st ex n t a b) : XG p l e R s m args below meth c Q D ca ρ H0 nL pc ls ((k, z) :: st) ex n t a b := fun H locs lsA hR hL => by
  obtain ⟨x, h⟩ := xk5 (ρ := ρ) (z := z) hk
  rw [List.map_cons, h]
  exact lv_fstore hx hb hd hL hi rfl fun ls' h' => kk H locs ls' hR (xst1 (by rw [h]; exact h'))
theorem s_fstoren (hx : p.tables.exec = Jvm.exec) (hb : c.code = cc) {i : Fin 4} {k : Nat} {z : Int} (hd : decode cc pc = .ok (.fstore_n i, 1)) (hi : i.val < nL) (hk : xkind k = 5) (kk : XG p l e R s m args below meth c Q D ca ρ H0 nL (pc + 1) ((i.val, k, z) :: xfilt (xkeep i.val k) ls) st ex n t a b) : XG p l e R s m args below meth c Q D ca ρ H0 nL pc ls ((k, z) :: st) ex n t a b := fun H locs lsA hR hL => by
  obtain ⟨x, h⟩ := xk5 (ρ := ρ) (z := z) hk
  rw [List.map_cons, h]
  exact lv_fstore_n hx hb hd rfl hL hi rfl fun ls' h' => kk H locs ls' hR (xst1 (by rw [h]; exact h'))
theorem s_lstore (hx : p.tables.exec = Jvm.exec) (hb : c.code = cc) {i k : Nat} {z : Int} (hd : decode cc pc = .ok (.lstore i, 2)) (hi : i + 1 < nL) (hk : xkind k = 3) (kk : XG p l e R s m args below meth c Q D ca ρ H0 nL (pc + 2) ((i, k, z) :: xfilt (xkeep i k) ls) st ex n t a b) : XG p l e R s m args below meth c Q D ca ρ H0 nL pc ls ((k, z) :: st) ex n t a b := fun H locs lsA hR hL => by
  obtain ⟨x, h⟩ := xk3 (ρ := ρ) (z := z) hk
  rw [List.map_cons, h]
  exact lv_lstore hx hb hd hL hi rfl fun ls' h' => kk H locs ls' hR (xst2 (by unfold xtwo; rw [hk]; rfl) (by rw [h]; exact h'))
theorem s_lstoren (hx : p.tables.exec = Jvm.exec) (hb : c.code = cc) {i : Fin 4} {k : Nat} {z : Int} (hd : decode cc pc = .ok (.lstore_n i, 1)) (hi : i.val + 1 < nL) (hk : xkind k = 3) (kk : XG p l e R s m args below meth c Q D ca ρ H0 nL (pc + 1) ((i.val, k, z) :: xfilt (xkeep i.val k) ls) st ex n t a b) : XG p l e R s m args below meth c Q D ca ρ H0 nL pc ls ((k, z) :: st) ex n t a b := fun H locs lsA hR hL => by
  obtain ⟨x, h⟩ := xk3 (ρ := ρ) (z := z) hk
  rw [List.map_cons, h]
  exact lv_lstore_n hx hb hd rfl hL hi rfl fun ls' h' => kk H locs ls' hR (xst2 (by unfold xtwo; rw [hk]; rfl) (by rw [h]; exact h'))
theorem s_dstore (hx : p.tables.exec = Jvm.exec) (hb : c.code = cc) {i k : Nat} {z : Int} (hd : decode cc pc = .ok (.dstore i, 2)) (hi : i + 1 < nL) (hk : xkind k = 4) (kk : XG p l e R s m args below meth c Q D ca ρ H0 nL (pc + 2) ((i, k, z) :: xfilt (xkeep i k) ls) st ex n t a b) : XG p l e R s m args below meth c Q D ca ρ H0 nL pc ls ((k, z) :: st) ex n t a b := fun H locs lsA hR hL => by
  obtain ⟨x, h⟩ := xk4 (ρ := ρ) (z := z) hk
  rw [List.map_cons, h]
  exact lv_dstore hx hb hd hL hi rfl fun ls' h' => kk H locs ls' hR (xst2 (by unfold xtwo; rw [hk]; rfl) (by rw [h]; exact h'))
theorem s_dstoren (hx : p.tables.exec = Jvm.exec) (hb : c.code = cc) {i : Fin 4} {k : Nat} {z : Int} (hd : decode cc pc = .ok (.dstore_n i, 1)) (hi : i.val + 1 < nL) (hk : xkind k = 4) (kk : XG p l e R s m args below meth c Q D ca ρ H0 nL (pc + 1) ((i.val, k, z) :: xfilt (xkeep i.val k) ls) st ex n t a b) : XG p l e R s m args below meth c Q D ca ρ H0 nL pc ls ((k, z) :: st) ex n t a b := fun H locs lsA hR hL => by
  obtain ⟨x, h⟩ := xk4 (ρ := ρ) (z := z) hk
  rw [List.map_cons, h]
  exact lv_dstore_n hx hb hd rfl hL hi rfl fun ls' h' => kk H locs ls' hR (xst2 (by unfold xtwo; rw [hk]; rfl) (by rw [h]; exact h'))
theorem s_astore (hx : p.tables.exec = Jvm.exec) (hb : c.code = cc) {i k : Nat} {z : Int} (hd : decode cc pc = .ok (.astore i, 2)) (hi : i < nL) (hk : xkind k ≤ 1) (kk : XG p l e R s m args below meth c Q D ca ρ H0 nL (pc + 2) ((i, k, z) :: xfilt (xkeep i k) ls) st ex n t a b) : XG p l e R s m args below meth c Q D ca ρ H0 nL pc ls ((k, z) :: st) ex n t a b := fun H locs lsA hR hL => by
  rcases xk1 (ρ := ρ) (z := z) hk with h | ⟨x, h⟩
  · rw [List.map_cons, h]
    exact lv_astoreN hx hb hd hL hi rfl fun ls' h' => kk H locs ls' hR (xst1 (by rw [h]; exact h'))
  · rw [List.map_cons, h]
    exact lv_astore hx hb hd hL hi rfl fun ls' h' => kk H locs ls' hR (xst1 (by rw [h]; exact h'))
theorem s_astoren (hx : p.tables.exec = Jvm.exec) (hb : c.code = cc) {i : Fin 4} {k : Nat} {z : Int} (hd : decode cc pc = .ok (.astore_n i, 1)) (hi : i.val < nL) (hk : xkind k ≤ 1) (kk : XG p l e R s m args below meth c Q D ca ρ H0 nL (pc + 1) ((i.val, k, z) :: xfilt (xkeep i.val k) ls) st ex n t a b) : XG p l e R s m args below meth c Q D ca ρ H0 nL pc ls ((k, z) :: st) ex n t a b := fun H locs lsA hR hL => by
  rcases xk1 (ρ := ρ) (z := z) hk with h | ⟨x, h⟩
  · rw [List.map_cons, h]
    exact lv_astore_nN hx hb hd rfl hL hi rfl fun ls' h' => kk H locs ls' hR (xst1 (by rw [h]; exact h'))
  · rw [List.map_cons, h]
    exact lv_astore_n hx hb hd rfl hL hi rfl fun ls' h' => kk H locs ls' hR (xst1 (by rw [h]; exact h'))
theorem s_iinc (hx : p.tables.exec = Jvm.exec) (hb : c.code = cc) {i : Nat} {k z : Int} (hd : decode cc pc = .ok (.iinc i k, 3)) (hi : i < nL) (hm : (i, 2, z) ∈ ls) (kk : XG p l e R s m args below meth c Q D ca ρ H0 nL (pc + 3) ((i, 2, z + k) :: xfilt (xkeep i 2) ls) st ex n t a b) : XG p l e R s m args below meth c Q D ca ρ H0 nL pc ls st ex n t a b := fun H locs lsA hR hL => by
  obtain ⟨q, hq⟩ := List.getElem?_of_mem (List.mem_map.mpr ⟨_, hm, rfl⟩ : (i, xD ρ (2, z)) ∈ xM ρ ls)
  exact lv_iinc hx hb hd hL hq (show Int32.ofInt z + Int32.ofInt k = Int32.ofInt (z + k) from (Int32.ofInt_add z k).symm) hi rfl fun ls' h' => kk H locs ls' hR (xst1 h')
/-! numbers -/
theorem s_iadd (hx : p.tables.exec = Jvm.exec) (hb : c.code = cc) {z w : Int} (hd : decode cc pc = .ok (.iadd, 1)) (kk : XG p l e R s m args below meth c Q D ca ρ H0 nL (pc + 1) ls ((2, z + w) :: st) ex n t a b) : XG p l e R s m args below meth c Q D ca ρ H0 nL pc ls ((2, w) :: (2, z) :: st) ex n t a b := fun H locs lsA hR hL => lv_iadd hx hb hd (by
  have h := kk H locs lsA hR hL
  have e : xD ρ (2, z + w) = .int (Int32.ofInt z + Int32.ofInt w) := by show Value.int (Int32.ofInt (z + w)) = _; rw [Int32.ofInt_add]
  rw [List.map_cons, e] at h
  exact h)
theorem s_isub (hx : p.tables.exec = Jvm.exec) (hb : c.code = cc) {z w : Int} (hd : decode cc pc = .ok (.isub, 1)) (kk : XG p l e R s m args below meth c Q D ca ρ H0 nL (pc + 1) ls ((2, z - w) :: st) ex n t a b) : XG p l e R s m args below meth c Q D ca ρ H0 nL pc ls ((2, w) :: (2, z) :: st) ex n t a b := fun H locs lsA hR hL => lv_isub hx hb hd (by
  have h := kk H locs lsA hR hL
  have e : xD ρ (2, z - w) = .int (Int32.ofInt z - Int32.ofInt w) := by show Value.int (Int32.ofInt (z - w)) = _; rw [Int32.ofInt_sub]
  rw [List.map_cons, e] at h
  exact h)
theorem s_imul (hx : p.tables.exec = Jvm.exec) (hb : c.code = cc) {z w : Int} (hd : decode cc pc = .ok (.imul, 1)) (kk : XG p l e R s m args below meth c Q D ca ρ H0 nL (pc + 1) ls ((2, z * w) :: st) ex n t a b) : XG p l e R s m args below meth c Q D ca ρ H0 nL pc ls ((2, w) :: (2, z) :: st) ex n t a b := fun H locs lsA hR hL => lv_imul hx hb hd (by
  have h := kk H locs lsA hR hL
  have e : xD ρ (2, z * w) = .int (Int32.ofInt z * Int32.ofInt w) := by show Value.int (Int32.ofInt (z * w)) = _; rw [Int32.ofInt_mul]
  rw [List.map_cons, e] at h
  exact h)
theorem xin31_iff {z w : Int} (h : xin31 z w = true) : 0 ≤ z ∧ z < 2147483648 ∧ 0 < w ∧ w < 2147483648 := by
  unfold xin31 at h
  cases h1 : xilt z (Int.ofNat 0) with
  | true => rw [h1] at h; cases h
  | false =>
    rw [h1] at h
    cases h2 : xilt z (Int.ofNat 2147483648) with
    | false => rw [h2] at h; cases h
    | true =>
      rw [h2] at h
      cases h3 : xilt (Int.ofNat 0) w with
      | false => rw [h3] at h; cases h
      | true =>
        rw [h3] at h
        exact ⟨xilt_no h1, xilt_iff.mp h2, xilt_iff.mp h3, xilt_iff.mp (show xilt w (Int.ofNat 2147483648) = true from h)⟩
theorem s_idiv (hx : p.tables.exec = Jvm.exec) (hb : c.code = cc) {z w : Int} (hd : decode cc pc = .ok (.idiv, 1)) (hr : xin31 z w = true) (kk : XG p l e R s m args below meth c Q D ca ρ H0 nL (pc + 1) ls ((2, z / w) :: st) ex n t a b) : XG p l e R s m args below meth c Q D ca ρ H0 nL pc ls ((2, w) :: (2, z) :: st) ex n t a b := fun H locs lsA hR hL => by
  obtain ⟨h1, h2, h3, h4⟩ := xin31_iff hr
  have ez := xofInt (show -2147483648 ≤ z by omega) h2
  have ew := xofInt (show -2147483648 ≤ w by omega) h4
  have e : Int32.ofInt z / Int32.ofInt w = Int32.ofInt (z / w) := by
    apply Int32.toInt_inj.mp
    rw [Int32.toInt_div_of_ne_left _ _ (by intro q; have := congrArg Int32.toInt q; rw [ez] at this; have e2 : Int32.minValue.toInt = -2147483648 := rfl; omega), ez, ew, Int.tdiv_eq_ediv_of_nonneg h1]
    have b1 : 0 ≤ z / w := Int.ediv_nonneg h1 (by omega)
    have b2 : z / w ≤ z := Int.ediv_le_self w h1
    rw [xofInt (by omega) (by omega)]
  refine lv_idiv hx hb hd (fun q => ?_) ?_
  · have := congrArg Int32.toInt q
    rw [ew] at this
    have e2 : (0 : Int32).toInt = 0 := rfl
    omega
  · have h := kk H locs lsA hR hL
    have e' : xD ρ (2, z / w) = .int (Int32.ofInt z / Int32.ofInt w) := by show Value.int (Int32.ofInt (z / w)) = _; rw [e]
    rw [List.map_cons, e'] at h
    exact h
theorem s_iand (hx : p.tables.exec = Jvm.exec) (hb : c.code = cc) {k : Nat} (hk : ρ.2.2 0 &&& 31 = Int32.ofInt (Int.ofNat k)) (hd : decode cc pc = .ok (.iand, 1)) (kk : XG p l e R s m args below meth c Q D ca ρ H0 nL (pc + 1) ls ((2, Int.ofNat k) :: st) ex n t a b) : XG p l e R s m args below meth c Q D ca ρ H0 nL pc ls ((2, Int.ofNat 31) :: (5, Int.ofNat 0) :: st) ex n t a b := fun H locs lsA hR hL => lv_iand hx hb hd (by
  have h := kk H locs lsA hR hL
  have e : xD ρ (2, Int.ofNat k) = .int (ρ.2.2 0 &&& Int32.ofInt (Int.ofNat 31)) := by show Value.int (Int32.ofInt (Int.ofNat k)) = _; rw [← hk]; rfl
  rw [List.map_cons, e] at h
  exact h)
theorem x63 {z : Int} (h1 : -9223372036854775808 ≤ z) (h2 : z < 9223372036854775808) : (Int64.ofInt z).toInt = z := by
  refine Int64.toInt_ofInt_of_le ?_ ?_
  · have e : (-2 ^ 63 : Int) = -9223372036854775808 := rfl
    omega
  · have e : (2 ^ 63 : Int) = 9223372036854775808 := rfl
    omega
theorem s_i2l2 (hx : p.tables.exec = Jvm.exec) (hb : c.code = cc) {z : Int} (hz : xin32 z = true) (hd : decode cc pc = .ok (.i2l, 1)) (kk : XG p l e R s m args below meth c Q D ca ρ H0 nL (pc + 1) ls ((3, z) :: st) ex n t a b) : XG p l e R s m args below meth c Q D ca ρ H0 nL pc ls ((2, z) :: st) ex n t a b := fun H locs lsA hR hL => by
  obtain ⟨h1, h2⟩ := xin32_iff hz
  refine lv_i2l hx hb hd (v := Int64.ofInt z) ?_ (kk H locs lsA hR hL)
  apply Int64.toInt_inj.mp
  rw [Int32.toInt_toInt64, xofInt h1 h2, x63 (by omega) (by omega)]
theorem s_i2l5 (hx : p.tables.exec = Jvm.exec) (hb : c.code = cc) {z : Int} (hd : decode cc pc = .ok (.i2l, 1)) (kk : XG p l e R s m args below meth c Q D ca ρ H0 nL (pc + 1) ls ((7, z) :: st) ex n t a b) : XG p l e R s m args below meth c Q D ca ρ H0 nL pc ls ((5, z) :: st) ex n t a b := fun H locs lsA hR hL => lv_i2l hx hb hd rfl (kk H locs lsA hR hL)
theorem s_l2i (hx : p.tables.exec = Jvm.exec) (hb : c.code = cc) {z : Int} (hd : decode cc pc = .ok (.l2i, 1)) (kk : XG p l e R s m args below meth c Q D ca ρ H0 nL (pc + 1) ls ((2, z) :: st) ex n t a b) : XG p l e R s m args below meth c Q D ca ρ H0 nL pc ls ((3, z) :: st) ex n t a b := fun H locs lsA hR hL => lv_l2i hx hb hd (v := Int32.ofInt z) (by rw [Int64.toInt32_ofInt]) (kk H locs lsA hR hL)
theorem s_i2c (hx : p.tables.exec = Jvm.exec) (hb : c.code = cc) {z : Int} (hd : decode cc pc = .ok (.i2c, 1)) (kk : XG p l e R s m args below meth c Q D ca ρ H0 nL (pc + 1) ls ((6, z) :: st) ex n t a b) : XG p l e R s m args below meth c Q D ca ρ H0 nL pc ls ((5, z) :: st) ex n t a b := fun H locs lsA hR hL => lv_i2c hx hb hd rfl (kk H locs lsA hR hL)
theorem s_i2d (hx : p.tables.exec = Jvm.exec) (hb : c.code = cc) {z : Int} (hd : decode cc pc = .ok (.i2d, 1)) (kk : XG p l e R s m args below meth c Q D ca ρ H0 nL (pc + 1) ls ((8, z) :: st) ex n t a b) : XG p l e R s m args below meth c Q D ca ρ H0 nL pc ls ((5, z) :: st) ex n t a b := fun H locs lsA hR hL => lv_i2d hx hb hd (kk H locs lsA hR hL)
theorem s_l2d (hx : p.tables.exec = Jvm.exec) (hb : c.code = cc) {z : Int} (hd : decode cc pc = .ok (.l2d, 1)) (kk : XG p l e R s m args below meth c Q D ca ρ H0 nL (pc + 1) ls ((9, z) :: st) ex n t a b) : XG p l e R s m args below meth c Q D ca ρ H0 nL pc ls ((7, z) :: st) ex n t a b := fun H locs lsA hR hL => lv_l2d hx hb hd (kk H locs lsA hR hL)
theorem s_dup (hx : p.tables.exec = Jvm.exec) (hb : c.code = cc) {k : Nat} {z : Int} (hk : xtwo k = false) (hd : decode cc pc = .ok (.dup, 1)) (kk : XG p l e R s m args below meth c Q D ca ρ H0 nL (pc + 1) ls ((k, z) :: (k, z) :: st) ex n t a b) : XG p l e R s m args below meth c Q D ca ρ H0 nL pc ls ((k, z) :: st) ex n t a b := fun H locs lsA hR hL => lv_dup hx hb hd (xcat1 hk) (kk H locs lsA hR hL)
theorem s_pop (hx : p.tables.exec = Jvm.exec) (hb : c.code = cc) {k : Nat} {z : Int} (hk : xtwo k = false) (hd : decode cc pc = .ok (.pop, 1)) (kk : XG p l e R s m args below meth c Q D ca ρ H0 nL (pc + 1) ls st ex n t a b) : XG p l e R s m args below meth c Q D ca ρ H0 nL pc ls ((k, z) :: st) ex n t a b := fun H locs lsA hR hL => lv_pop hx hb hd (xcat1 hk) (kk H locs lsA hR hL)
theorem s_goto (hx : p.tables.exec = Jvm.exec) (hb : c.code = cc) {off : Int} {tgt : Nat} (ht : (pc : Int) + off = (tgt : Int)) (hd : decode cc pc = .ok (.goto off, 3)) (kk : XG p l e R s m args below meth c Q D ca ρ H0 nL tgt ls st ex n t a b) : XG p l e R s m args below meth c Q D ca ρ H0 nL pc ls st ex n t a b := fun H locs lsA hR hL => lv_goto hx hb hd ht (kk H locs lsA hR hL)
end XR
