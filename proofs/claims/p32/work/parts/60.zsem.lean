/-! THE HEAP OF THE CLASS AS NUMBERS (its shape never changes behind the constructors), and one row an instruction over it -/
/-- ints, longs, doubles, references: by cell and slot -/
abbrev zH : Type := (Nat → Nat → Int32) × (Nat → Nat → Int64) × (Nat → Nat → UInt64) × (Nat → Nat → Option Nat)
/-- what lies on a stack: an int, a long; a double, a float; a reference or null, the script -/
abbrev zV : Type := (Int32 ⊕ Int64) ⊕ ((UInt64 ⊕ UInt32) ⊕ (Option Nat ⊕ Unit))
abbrev zi (x : Int32) : zV := .inl (.inl x)
abbrev zj (x : Int64) : zV := .inl (.inr x)
abbrev zd (x : UInt64) : zV := .inr (.inl (.inl x))
abbrev zf (x : UInt32) : zV := .inr (.inl (.inr x))
abbrev zr (q : Option Nat) : zV := .inr (.inr (.inl q))
abbrev zs : zV := .inr (.inr (.inr ()))
def zrf (ρ : xE) (q : Option Nat) : Value := match q with
  | none => .null
  | some k => .ref (ρ.1 + k)
def zD (ρ : xE) (v : zV) : Value := match v with
  | .inl (.inl x) => .int x
  | .inl (.inr x) => .long x
  | .inr (.inl (.inl x)) => .double x
  | .inr (.inl (.inr x)) => .float x
  | .inr (.inr (.inl q)) => zrf ρ q
  | .inr (.inr (.inr _)) => .ref ρ.2.1
/-- is it of two slots -/
def z2 (v : zV) : Bool := match v with
  | .inl (.inr _) => true
  | .inr (.inl (.inl _)) => true
  | _ => false
theorem zcat {ρ : xE} : ∀ {v : zV}, (zD ρ v).category = cond (z2 v) 2 1
  | .inl (.inl _) => rfl
  | .inl (.inr _) => rfl
  | .inr (.inl (.inl _)) => rfl
  | .inr (.inl (.inr _)) => rfl
  | .inr (.inr (.inl none)) => rfl
  | .inr (.inr (.inl (some _))) => rfl
  | .inr (.inr (.inr ())) => rfl
theorem zcat1 {ρ : xE} {v : zV} (h : z2 v = false) : (zD ρ v).category = 1 := by rw [zcat, h]; rfl
def zsum (st : List zV) : Nat := match st with
  | [] => 0
  | v :: st => (cond (z2 v) 2 1) + zsum st
theorem zsum_eq {ρ : xE} : ∀ {st : List zV}, ((st.map (zD ρ)).map fun v => v.category).sum = zsum st
  | [] => rfl
  | v :: st => by
    have h := zsum_eq (ρ := ρ) (st := st)
    rw [List.map_cons, List.map_cons, List.sum_cons, h, zcat]
    rfl
def zM (ρ : xE) (ls : List (Nat × zV)) : List (Nat × Value) := ls.map (fun q => (q.1, zD ρ q.2))
/-- kinds of slots: 0 int, 1 char, 2 boolean, 3 long, 4 double, 5 and on references -/
def zft (F : FieldType) : Nat := match F with
  | .int => 0
  | .char => 1
  | .boolean => 2
  | .long => 3
  | .double => 4
  | _ => 5
def zF (ci j : Nat) : Nat := zft (xcF ci j)
def zval (ρ : xE) (h : zH) (ty k j : Nat) : Value := match ty with
  | 0 => .int (h.1 k j)
  | 1 => .int (h.1 k j)
  | 2 => .int (h.1 k j)
  | 3 => .long (h.2.1 k j)
  | 4 => .double (h.2.2.1 k j)
  | _ => zrf ρ (h.2.2.2 k j)
def zarr (ρ : xE) (h : zH) (ty k : Nat) : (Nat → Int32) ⊕ ((Nat → Int64) ⊕ ((Nat → UInt32) ⊕ ((Nat → UInt64) ⊕ (Nat → Option Nat)))) := match ty with
  | 0 => .inl (h.1 k)
  | 1 => .inl (h.1 k)
  | 2 => .inl (h.1 k)
  | 3 => .inr (.inl (h.2.1 k))
  | 4 => .inr (.inr (.inr (.inl (h.2.2.1 k))))
  | _ => .inr (.inr (.inr (.inr fun j => (h.2.2.2 k j).map (fun q => ρ.1 + q))))
theorem zrf_eq {ρ : xE} (q : Option Nat) : va_rf (q.map (fun k => ρ.1 + k)) = zrf ρ q := by cases q <;> rfl
/-- a cell of the picture -/
noncomputable def zC (ca : Nat → ClassId) (ρ : xE) (h : zH) (k : Nat) : va_E := match (zS k).1 with
  | 0 => .inr ((zS k).2.1, (List.range (zS k).2.2).map (fun j => zval ρ h (zF (zS k).2.1 j) k j))
  | _ => .inl (ca (zS k).2.1, (zS k).2.2, zarr ρ h (zS k).2.1 k)
noncomputable def zW (ca : Nat → ClassId) (ρ : xE) (h : zH) : va_W := (List.range zN).map (fun k => (ρ.1 + k, zC ca ρ h k))
theorem zW_at {ca : Nat → ClassId} {ρ : xE} {h : zH} {k : Nat} (hk : k < zN) : (zW ca ρ h)[k]? = some (ρ.1 + k, zC ca ρ h k) := by
  unfold zW
  rw [List.getElem?_map, List.getElem?_range hk]
  rfl
theorem zW_len {ca : Nat → ClassId} {ρ : xE} {h : zH} : (zW ca ρ h).length = zN := by simp [zW]
theorem zW_D {ca : Nat → ClassId} {ρ : xE} {h : zH} : va_D (fun q => ρ.1 ≤ q) (zW ca ρ h) := by
  have key : ∀ (k : Nat) (q : Nat × va_E), (zW ca ρ h)[k]? = some q → q.1 = ρ.1 + k := by
    intro k q hq
    have hk : k < zN := by
      have := (List.getElem?_eq_some_iff.mp hq).1
      rwa [zW_len] at this
    rw [zW_at hk] at hq
    rw [← Option.some.inj hq]
  refine ⟨fun i j p q hp hq e => ?_, fun k q hq => ?_⟩
  · have h1 := key i p hp
    have h2 := key j q hq
    omega
  · have h1 := key k q hq
    show ρ.1 ≤ q.1
    omega
def zRel (D : va_G) (ca : Nat → ClassId) (ρ : xE) (H0 : Heap) (h : zH) (H : Heap) (locs : List Loc) : Prop := va_P D xcl (zW ca ρ h) H ∧ va_S (fun q => ρ.1 ≤ q) H0 H locs ∧ ρ.1 = H0.size
def zupI (h : zH) (k j : Nat) (x : Int32) : zH := (fun k' j' => if k' = k ∧ j' = j then x else h.1 k' j', h.2)
def zupJ (h : zH) (k j : Nat) (x : Int64) : zH := (h.1, fun k' j' => if k' = k ∧ j' = j then x else h.2.1 k' j', h.2.2)
def zupD (h : zH) (k j : Nat) (x : UInt64) : zH := (h.1, h.2.1, fun k' j' => if k' = k ∧ j' = j then x else h.2.2.1 k' j', h.2.2.2)
def zupR (h : zH) (k j : Nat) (x : Option Nat) : zH := (h.1, h.2.1, h.2.2.1, fun k' j' => if k' = k ∧ j' = j then x else h.2.2.2 k' j')
/-- h1 is h but at cell k -/
def zoff (h h1 : zH) (k : Nat) : Prop := ∀ k', k' ≠ k → h1.1 k' = h.1 k' ∧ h1.2.1 k' = h.2.1 k' ∧ h1.2.2.1 k' = h.2.2.1 k' ∧ h1.2.2.2 k' = h.2.2.2 k'
theorem zoffI {h : zH} {k j : Nat} {x : Int32} : zoff h (zupI h k j x) k := fun k' hk => ⟨funext fun j' => if_neg (fun q => hk q.1), rfl, rfl, rfl⟩
theorem zoffJ {h : zH} {k j : Nat} {x : Int64} : zoff h (zupJ h k j x) k := fun k' hk => ⟨rfl, funext fun j' => if_neg (fun q => hk q.1), rfl, rfl⟩
theorem zoffD {h : zH} {k j : Nat} {x : UInt64} : zoff h (zupD h k j x) k := fun k' hk => ⟨rfl, rfl, funext fun j' => if_neg (fun q => hk q.1), rfl⟩
theorem zoffR {h : zH} {k j : Nat} {x : Option Nat} : zoff h (zupR h k j x) k := fun k' hk => ⟨rfl, rfl, rfl, funext fun j' => if_neg (fun q => hk q.1)⟩
theorem zval_of {ρ : xE} {h h1 : zH} {k : Nat} (e : h1.1 k = h.1 k ∧ h1.2.1 k = h.2.1 k ∧ h1.2.2.1 k = h.2.2.1 k ∧ h1.2.2.2 k = h.2.2.2 k) (ty j : Nat) : zval ρ h1 ty k j = zval ρ h ty k j := by
  obtain ⟨e1, e2, e3, e4⟩ := e
  match ty with
  | 0 => show Value.int (h1.1 k j) = Value.int (h.1 k j); rw [e1]
  | 1 => show Value.int (h1.1 k j) = Value.int (h.1 k j); rw [e1]
  | 2 => show Value.int (h1.1 k j) = Value.int (h.1 k j); rw [e1]
  | 3 => show Value.long (h1.2.1 k j) = Value.long (h.2.1 k j); rw [e2]
  | 4 => show Value.double (h1.2.2.1 k j) = Value.double (h.2.2.1 k j); rw [e3]
  | n + 5 => show zrf ρ (h1.2.2.2 k j) = zrf ρ (h.2.2.2 k j); rw [e4]
theorem zarr_of {ρ : xE} {h h1 : zH} {k : Nat} (e : h1.1 k = h.1 k ∧ h1.2.1 k = h.2.1 k ∧ h1.2.2.1 k = h.2.2.1 k ∧ h1.2.2.2 k = h.2.2.2 k) (ty : Nat) : zarr ρ h1 ty k = zarr ρ h ty k := by
  obtain ⟨e1, e2, e3, e4⟩ := e
  match ty with
  | 0 => exact congrArg Sum.inl e1
  | 1 => exact congrArg Sum.inl e1
  | 2 => exact congrArg Sum.inl e1
  | 3 => exact congrArg (fun z => Sum.inr (Sum.inl z)) e2
  | 4 => exact congrArg (fun z => Sum.inr (Sum.inr (Sum.inr (Sum.inl z)))) e3
  | n + 5 =>
    show Sum.inr (Sum.inr (Sum.inr (Sum.inr fun j => (h1.2.2.2 k j).map (fun q => ρ.1 + q)))) = Sum.inr (Sum.inr (Sum.inr (Sum.inr fun j => (h.2.2.2 k j).map (fun q => ρ.1 + q))))
    rw [e4]
theorem zC_of {ca : Nat → ClassId} {ρ : xE} {h h1 : zH} {k : Nat} (e : h1.1 k = h.1 k ∧ h1.2.1 k = h.2.1 k ∧ h1.2.2.1 k = h.2.2.1 k ∧ h1.2.2.2 k = h.2.2.2 k) : zC ca ρ h1 k = zC ca ρ h k := by
  unfold zC
  split
  · rw [List.map_congr_left (fun j _ => zval_of e _ j)]
  · rw [zarr_of e]
theorem zW_set {ca : Nat → ClassId} {ρ : xE} {h h1 : zH} {k : Nat} (hk : k < zN) (hne : zoff h h1 k) : (zW ca ρ h).set k (ρ.1 + k, zC ca ρ h1 k) = zW ca ρ h1 := by
  refine List.ext_getElem? fun j => ?_
  by_cases hj : j < zN
  · rw [zW_at hj, List.getElem?_set]
    by_cases e : k = j
    · subst e
      rw [if_pos rfl, if_pos (by rw [zW_len]; exact hj)]
    · rw [if_neg e, zW_at hj, zC_of (hne j (fun q => e q.symm))]
  · rw [List.getElem?_eq_none (by simp [zW_len]; omega), List.getElem?_eq_none (by rw [zW_len]; omega)]
theorem zRel_set {D : va_G} {ca : Nat → ClassId} {ρ : xE} {H0 H H1 : Heap} {h h1 : zH} {locs : List Loc} (hR : zRel D ca ρ H0 h H locs) {k : Nat} (hk : k < zN) (j : Nat) (hne : zoff h h1 k)
    (hat : va_at D xcl (ρ.1 + k, zC ca ρ h1 k) H1) (hz : H1.size = H.size) (oq : ∀ q : Nat, q ≠ ρ.1 + k → H1[q]? = H[q]?) : zRel D ca ρ H0 h1 H1 (locs ++ [⟨ρ.1 + k, j⟩]) := by
  obtain ⟨hP, hS, hB⟩ := hR
  refine ⟨?_, hS.put hz oq (Nat.le_add_right _ _), hB⟩
  have h2 := hP.set zW_D (zW_at hk) hat oq
  rw [zW_set hk hne] at h2
  exact h2
/-- an exception more behind the picture -/
theorem zRel_more {D : va_G} {ca : Nat → ClassId} {ρ : xE} {H0 H H1 : Heap} {h : zH} {locs locs1 : List Loc} (hR : zRel D ca ρ H0 h H locs) (hz : H.size ≤ H1.size) (oq : ∀ q : Nat, q < H.size → H1[q]? = H[q]?) (hl : ∀ l ∈ locs1, ρ.1 ≤ l.base) : zRel D ca ρ H0 h H1 locs1 := by
  obtain ⟨hP, hS, hB⟩ := hR
  exact ⟨hP.kept (fun k x hx => oq x.1 ((hP k x hx).lt)), ⟨Nat.le_trans hS.1 hz, fun q h1 h2 => (oq q (Nat.lt_of_lt_of_le h1 hS.1)).trans (hS.2.1 q h1 h2), hl⟩, hB⟩
theorem zRel_nil {D : va_G} {ca : Nat → ClassId} {ρ : xE} {H0 H : Heap} {h : zH} {locs : List Loc} (hR : zRel D ca ρ H0 h H locs) : zRel D ca ρ H0 h H [] := ⟨hR.1, ⟨hR.2.1.1, hR.2.1.2.1, fun _ q => by cases q⟩, hR.2.2⟩
/-! locals -/
def zlook (ls : List (Nat × zV)) (i : Nat) : Option zV := match ls with
  | [] => none
  | q :: ls => cond (Nat.beq q.1 i) (some q.2) (zlook ls i)
theorem zlook_mem {i : Nat} {v : zV} : ∀ {ls : List (Nat × zV)}, zlook ls i = some v → (i, v) ∈ ls
  | [], h => by cases h
  | q :: ls, h => by
    have h : cond (Nat.beq q.1 i) (some q.2) (zlook ls i) = some v := h
    cases hb : Nat.beq q.1 i with
    | true =>
      rw [hb] at h
      have e1 : q.1 = i := Nat.eq_of_beq_eq_true hb
      have e2 : q.2 = v := Option.some.inj h
      rw [← e1, ← e2]
      exact List.mem_cons_self
    | false =>
      rw [hb] at h
      exact List.mem_cons_of_mem _ (zlook_mem h)
def zkeep (i : Nat) (two : Bool) (q : Nat × zV) : Bool := cond (Nat.beq q.1 i) false (cond (cond (Nat.beq (Nat.succ q.1) i) (z2 q.2) false) false (cond (cond (Nat.beq q.1 (Nat.succ i)) two false) false true))
def zfil (i : Nat) (two : Bool) (ls : List (Nat × zV)) : List (Nat × zV) := match ls with
  | [] => []
  | q :: ls => cond (zkeep i two q) (q :: zfil i two ls) (zfil i two ls)
theorem zfil_mem {i : Nat} {two : Bool} {q : Nat × zV} : ∀ {l : List (Nat × zV)}, q ∈ zfil i two l → q ∈ l ∧ zkeep i two q = true
  | [], h => by cases h
  | x :: l, h => by
    have h' : q ∈ cond (zkeep i two x) (x :: zfil i two l) (zfil i two l) := h
    cases hf : zkeep i two x with
    | true =>
      rw [hf] at h'
      rcases List.mem_cons.mp h' with rfl | h2
      · exact ⟨List.mem_cons_self, hf⟩
      · exact ⟨List.mem_cons_of_mem _ (zfil_mem h2).1, (zfil_mem h2).2⟩
    | false =>
      rw [hf] at h'
      exact ⟨List.mem_cons_of_mem _ (zfil_mem h').1, (zfil_mem h').2⟩
theorem zkeep_ok {i : Nat} {two : Bool} {q : Nat × zV} (h : zkeep i two q = true) : q.1 ≠ i ∧ (q.1 + 1 = i → z2 q.2 = false) ∧ (q.1 = i + 1 → two = false) := by
  unfold zkeep at h
  cases h1 : Nat.beq q.1 i with
  | true => rw [h1] at h; cases h
  | false =>
    rw [h1] at h
    refine ⟨Nat.ne_of_beq_eq_false h1, fun h2 => ?_, fun h2 => ?_⟩
    · have e : Nat.beq (Nat.succ q.1) i = true := by rw [show Nat.succ q.1 = i from h2]; exact Nat.beq_refl _
      rw [e] at h
      cases h3 : z2 q.2 with
      | false => rfl
      | true => rw [h3] at h; cases h
    · have e : Nat.beq q.1 (Nat.succ i) = true := by rw [h2]; exact Nat.beq_refl _
      rw [e] at h
      cases h3 : two with
      | false => rfl
      | true =>
        rw [h3] at h
        revert h
        cases cond (Nat.beq (Nat.succ q.1) i) (z2 q.2) false <;> intro h <;> cases h
section ZL
variable {ρ : xE} {nL : Nat} {ls : List (Nat × zV)}
theorem zl_at {lsA : Array Slot} (hL : lv_has lsA nL (zM ρ ls)) {i : Nat} {v : zV} (hm : zlook ls i = some v) : lsA[i]? = some (.val (zD ρ v)) := hL.2.2 (i, zD ρ v) (List.mem_map.mpr ⟨_, zlook_mem hm, rfl⟩)
theorem zst1 {lsA : Array Slot} {i : Nat} {v : zV} (hL : lv_has lsA nL ((i, zD ρ v) :: (zM ρ ls).filter (fun q => !(q.1 == i) && !(q.1 + 1 == i && q.2.category == 2)))) : lv_has lsA nL (zM ρ ((i, v) :: zfil i false ls)) := by
  refine lv_weak hL fun q hq => ?_
  rcases List.mem_cons.mp hq with rfl | hq
  · exact List.mem_cons_self
  · obtain ⟨x, hx, rfl⟩ := List.mem_map.mp hq
    obtain ⟨h1, h2⟩ := zfil_mem hx
    obtain ⟨g1, g2, -⟩ := zkeep_ok h2
    refine List.mem_cons_of_mem _ (List.mem_filter.mpr ⟨List.mem_map.mpr ⟨x, h1, rfl⟩, ?_⟩)
    show (!(x.1 == i) && !(x.1 + 1 == i && (zD ρ x.2).category == 2)) = true
    have e1 : (x.1 == i) = false := by simpa using g1
    rw [e1]
    by_cases h3 : x.1 + 1 = i
    · have e2 : (zD ρ x.2).category = 1 := zcat1 (g2 h3)
      simp [e2]
    · have e2 : (x.1 + 1 == i) = false := by simpa using h3
      simp [e2]
theorem zst2 {lsA : Array Slot} {i : Nat} {v : zV} (hL : lv_has lsA nL ((i, zD ρ v) :: (zM ρ ls).filter (fun q => !(q.1 == i) && (!(q.1 == i + 1) && !(q.1 + 1 == i && q.2.category == 2))))) : lv_has lsA nL (zM ρ ((i, v) :: zfil i true ls)) := by
  refine lv_weak hL fun q hq => ?_
  rcases List.mem_cons.mp hq with rfl | hq
  · exact List.mem_cons_self
  · obtain ⟨x, hx, rfl⟩ := List.mem_map.mp hq
    obtain ⟨h1, h2⟩ := zfil_mem hx
    obtain ⟨g1, g2, g3⟩ := zkeep_ok h2
    refine List.mem_cons_of_mem _ (List.mem_filter.mpr ⟨List.mem_map.mpr ⟨x, h1, rfl⟩, ?_⟩)
    show (!(x.1 == i) && (!(x.1 == i + 1) && !(x.1 + 1 == i && (zD ρ x.2).category == 2))) = true
    have e1 : (x.1 == i) = false := by simpa using g1
    have e3 : (x.1 == i + 1) = false := by
      have : x.1 ≠ i + 1 := fun q => by cases g3 q
      simpa using this
    rw [e1, e3]
    by_cases h3 : x.1 + 1 = i
    · have e2 : (zD ρ x.2).category = 1 := zcat1 (g2 h3)
      simp [e2]
    · have e2 : (x.1 + 1 == i) = false := by simpa using h3
      simp [e2]
end ZL
