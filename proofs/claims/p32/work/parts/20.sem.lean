/-! WHAT THE PICTURES MEAN -/
/-- the first new cell, the script's cell, its ints -/
abbrev xE : Type := Nat × Nat × (Nat → Int32)
noncomputable def xD (ρ : xE) (v : xV) : Value := lget Value.null [Value.null, .ref (ρ.1 + xnat v.2), .int (Int32.ofInt v.2), .long (Int64.ofInt v.2), .double (cond (xieq v.2 (Int.ofNat 0)) FP.dconst0 FP.dconst1),
  .int (ρ.2.2 (xnat v.2)), .int ((ρ.2.2 (xnat v.2)).toUInt32 % 65536).toInt32, .long (ρ.2.2 (xnat v.2)).toInt64, .double (FP.i2d (ρ.2.2 (xnat v.2))), .double (FP.l2d (ρ.2.2 (xnat v.2)).toInt64), .ref ρ.2.1, .float FP.fconst0] v.1
noncomputable def xM (ρ : xE) (l : xL) : List (Nat × Value) := l.map (fun q => (q.1, xD ρ q.2))
theorem xk2 {ρ : xE} {z : Int} : ∀ {a : Nat}, xkind a = 2 → ∃ x : Int32, xD ρ (a, z) = .int x
  | 2, _ => ⟨_, rfl⟩ | 5, _ => ⟨_, rfl⟩ | 6, _ => ⟨_, rfl⟩
  | 0, h => by cases h
  | 1, h => by cases h
  | 3, h => by cases h
  | 4, h => by cases h
  | 7, h => by cases h
  | 8, h => by cases h
  | 9, h => by cases h
  | 10, h => by cases h
  | 11, h => by cases h
  | n + 12, h => by cases h
theorem xk3 {ρ : xE} {z : Int} : ∀ {a : Nat}, xkind a = 3 → ∃ x : Int64, xD ρ (a, z) = .long x
  | 3, _ => ⟨_, rfl⟩ | 7, _ => ⟨_, rfl⟩
  | 0, h => by cases h
  | 1, h => by cases h
  | 2, h => by cases h
  | 4, h => by cases h
  | 5, h => by cases h
  | 6, h => by cases h
  | 8, h => by cases h
  | 9, h => by cases h
  | 10, h => by cases h
  | 11, h => by cases h
  | n + 12, h => by cases h
theorem xk4 {ρ : xE} {z : Int} : ∀ {a : Nat}, xkind a = 4 → ∃ x : UInt64, xD ρ (a, z) = .double x
  | 4, _ => ⟨_, rfl⟩ | 8, _ => ⟨_, rfl⟩ | 9, _ => ⟨_, rfl⟩
  | 0, h => by cases h
  | 1, h => by cases h
  | 2, h => by cases h
  | 3, h => by cases h
  | 5, h => by cases h
  | 6, h => by cases h
  | 7, h => by cases h
  | 10, h => by cases h
  | 11, h => by cases h
  | n + 12, h => by cases h
theorem xk5 {ρ : xE} {z : Int} : ∀ {a : Nat}, xkind a = 5 → ∃ x : UInt32, xD ρ (a, z) = .float x
  | 11, _ => ⟨_, rfl⟩
  | 0, h => by cases h
  | 1, h => by cases h
  | 2, h => by cases h
  | 3, h => by cases h
  | 4, h => by cases h
  | 5, h => by cases h
  | 6, h => by cases h
  | 7, h => by cases h
  | 8, h => by cases h
  | 9, h => by cases h
  | 10, h => by cases h
  | n + 12, h => by cases h
theorem xk1 {ρ : xE} {z : Int} : ∀ {a : Nat}, xkind a ≤ 1 → xD ρ (a, z) = .null ∨ ∃ x : Nat, xD ρ (a, z) = .ref x
  | 0, _ => Or.inl rfl | 1, _ => Or.inr ⟨_, rfl⟩ | 10, _ => Or.inr ⟨_, rfl⟩
  | 2, h => absurd h (by show ¬ (2 : Nat) ≤ 1; omega)
  | 3, h => absurd h (by show ¬ (3 : Nat) ≤ 1; omega)
  | 4, h => absurd h (by show ¬ (4 : Nat) ≤ 1; omega)
  | 5, h => absurd h (by show ¬ (2 : Nat) ≤ 1; omega)
  | 6, h => absurd h (by show ¬ (2 : Nat) ≤ 1; omega)
  | 7, h => absurd h (by show ¬ (3 : Nat) ≤ 1; omega)
  | 8, h => absurd h (by show ¬ (4 : Nat) ≤ 1; omega)
  | 9, h => absurd h (by show ¬ (4 : Nat) ≤ 1; omega)
  | 11, h => absurd h (by show ¬ (5 : Nat) ≤ 1; omega)
  | n + 12, h => absurd h (by show ¬ (9 : Nat) ≤ 1; omega)
theorem xcat {ρ : xE} {z : Int} : ∀ {a : Nat}, (xD ρ (a, z)).category = cond (xtwo a) 2 1
  | 0 => rfl
  | 1 => rfl
  | 2 => rfl
  | 3 => rfl
  | 4 => rfl
  | 5 => rfl
  | 6 => rfl
  | 7 => rfl
  | 8 => rfl
  | 9 => rfl
  | 10 => rfl
  | 11 => rfl
  | n + 12 => rfl
theorem xcat1 {ρ : xE} {z : Int} {a : Nat} (h : xtwo a = false) : (xD ρ (a, z)).category = 1 := by rw [xcat, h]; rfl
/-! trees and lists -/
theorem tget_set {α : Type} (z x : α) (d : Nat) : ∀ (t : Lean.RArray α) (k j : Nat), k < 2 ^ d → j < 2 ^ d → tget z d (tset x d t k) j = if j = k then x else tget z d t j := by
  induction d with
  | zero =>
    intro t k j hk hj
    have h1 : k = 0 := by simpa using hk
    have h2 : j = 0 := by simpa using hj
    subst h1; subst h2
    rfl
  | succ d ih =>
    intro t k j hk hj
    have hp : 2 ^ (d + 1) = 2 * 2 ^ d := by rw [Nat.pow_succ]; omega
    rw [hp] at hk hj
    have hk2 : k / 2 < 2 ^ d := by omega
    have hj2 : j / 2 < 2 ^ d := by omega
    have main : ∀ (l r : Lean.RArray α), (∀ i, tget z (d + 1) t i = cond (Nat.beq (i % 2) 0) (tget z d l (i / 2)) (tget z d r (i / 2))) →
        tset x (d + 1) t k = cond (Nat.beq (k % 2) 0) (.branch 0 (tset x d l (k / 2)) r) (.branch 0 l (tset x d r (k / 2))) →
        tget z (d + 1) (tset x (d + 1) t k) j = if j = k then x else tget z (d + 1) t j := by
      intro l r hg hs
      rw [hs, hg j]
      cases hkb : Nat.beq (k % 2) 0 with
      | true =>
        have hk0 : k % 2 = 0 := Nat.eq_of_beq_eq_true hkb
        show cond (Nat.beq (j % 2) 0) (tget z d (tset x d l (k / 2)) (j / 2)) (tget z d r (j / 2)) = _
        cases hjb : Nat.beq (j % 2) 0 with
        | true =>
          have hj0 : j % 2 = 0 := Nat.eq_of_beq_eq_true hjb
          show tget z d (tset x d l (k / 2)) (j / 2) = _
          rw [ih l (k / 2) (j / 2) hk2 hj2]
          by_cases hjk : j = k
          · rw [if_pos hjk, if_pos (by rw [hjk])]
          · rw [if_neg hjk, if_neg (by omega)]; rfl
        | false =>
          have hj0 : ¬ j % 2 = 0 := Nat.ne_of_beq_eq_false hjb
          rw [if_neg (by intro q; rw [q] at hj0; exact hj0 hk0)]
          rfl
      | false =>
        have hk0 : ¬ k % 2 = 0 := Nat.ne_of_beq_eq_false hkb
        show cond (Nat.beq (j % 2) 0) (tget z d l (j / 2)) (tget z d (tset x d r (k / 2)) (j / 2)) = _
        cases hjb : Nat.beq (j % 2) 0 with
        | true =>
          have hj0 : j % 2 = 0 := Nat.eq_of_beq_eq_true hjb
          rw [if_neg (by intro q; rw [q] at hj0; exact hk0 hj0)]
          rfl
        | false =>
          have hj0 : ¬ j % 2 = 0 := Nat.ne_of_beq_eq_false hjb
          show tget z d (tset x d r (k / 2)) (j / 2) = _
          rw [ih r (k / 2) (j / 2) hk2 hj2]
          by_cases hjk : j = k
          · rw [if_pos hjk, if_pos (by rw [hjk])]
          · rw [if_neg hjk, if_neg (by omega)]; rfl
    cases t with
    | leaf y =>
      refine main (.leaf y) (.leaf y) (fun i => ?_) rfl
      have hl : ∀ (e : Nat) (i : Nat), tget z e (.leaf y) i = y := by
        intro e
        cases e <;> intro i <;> rfl
      rw [hl, hl]
      cases Nat.beq (i % 2) 0 <;> rfl
    | branch p l r => exact main l r (fun i => rfl) rfl
theorem lget_some {α : Type} {z : α} : ∀ {l : List α} {k : Nat}, lget z l k ≠ z → l[k]? = some (lget z l k)
  | [], _, h => absurd rfl h
  | a :: l, 0, _ => rfl
  | a :: l, k + 1, h => by
    rw [List.getElem?_cons_succ]
    exact lget_some (l := l) (k := k) h
theorem lget_of {α : Type} {z x : α} : ∀ {l : List α} {k : Nat}, l[k]? = some x → lget z l k = x
  | [], _, h => by simp at h
  | a :: l, 0, h => by
    have h' : a = x := by simpa using h
    exact h'
  | a :: l, k + 1, h => by
    rw [List.getElem?_cons_succ] at h
    exact lget_of (l := l) (k := k) h
theorem lget_out {α : Type} {z : α} : ∀ {l : List α} {k : Nat}, l.length ≤ k → lget z l k = z
  | [], _, _ => rfl
  | a :: l, 0, h => by simp at h
  | a :: l, k + 1, h => lget_out (l := l) (k := k) (by simpa using h)
theorem lset_eq {α : Type} (x : α) : ∀ (l : List α) (k : Nat), lset x l k = l.set k x
  | [], _ => by simp [lset]
  | a :: l, 0 => rfl
  | a :: l, k + 1 => by
    rw [List.set_cons_succ, ← lset_eq x l k]
    rfl
theorem lget_set {α : Type} (z x : α) {l : List α} {k : Nat} (hk : k < l.length) (j : Nat) : lget z (lset x l k) j = if j = k then x else lget z l j := by
  rw [lset_eq]
  by_cases h : j = k
  · subst h
    rw [if_pos rfl]
    exact lget_of (by simp [hk])
  · rw [if_neg h]
    by_cases hj : j < l.length
    · refine lget_of ?_
      rw [List.getElem?_set_ne (fun q => h q.symm)]
      cases hq : l[j]? with
      | none => rw [List.getElem?_eq_none_iff] at hq; omega
      | some y => rw [lget_of hq]
    · rw [lget_out (by simpa using Nat.le_of_not_lt hj), lget_out (Nat.le_of_not_lt hj)]
theorem lrep_eq {α : Type} (x : α) (n : Nat) : lrep x n = List.replicate n x := by
  induction n with
  | zero => rfl
  | succ n ih => rw [List.replicate_succ, ← ih]; rfl
theorem xforce_eq {α : Type} (n : Nat) (f : Nat → α) : xforce n f = f n := by cases n <;> rfl
theorem xilt_iff {a b : Int} : xilt a b = true ↔ a < b := by
  cases a with
  | ofNat m =>
    cases b with
    | ofNat k =>
      show Nat.blt m k = true ↔ (m : Int) < (k : Int)
      rw [Nat.blt_eq]
      omega
    | negSucc k =>
      show false = true ↔ (m : Int) < Int.negSucc k
      exact ⟨fun h => (by cases h), fun h => (by omega)⟩
  | negSucc m =>
    cases b with
    | ofNat k =>
      show true = true ↔ Int.negSucc m < (k : Int)
      exact ⟨fun _ => (by omega), fun _ => rfl⟩
    | negSucc k =>
      show Nat.blt k m = true ↔ Int.negSucc m < Int.negSucc k
      rw [Nat.blt_eq]
      omega
theorem xilt_no {a b : Int} (h : xilt a b = false) : b ≤ a := by
  have : ¬ a < b := fun q => by rw [xilt_iff.mpr q] at h; cases h
  omega
theorem xieq_iff {a b : Int} : xieq a b = true ↔ a = b := by
  cases a <;> cases b
  · show Nat.beq _ _ = true ↔ _
    rw [Nat.beq_eq]
    exact ⟨fun h => by rw [h], fun h => by cases h; rfl⟩
  · exact ⟨fun h => (by cases h), fun h => (by cases h)⟩
  · exact ⟨fun h => (by cases h), fun h => (by cases h)⟩
  · show Nat.beq _ _ = true ↔ _
    rw [Nat.beq_eq]
    exact ⟨fun h => by rw [h], fun h => by cases h; rfl⟩
theorem xieq_no {a b : Int} (h : xieq a b = false) : ¬ a = b := fun q => by rw [xieq_iff.mpr q] at h; cases h
theorem xnat_of {z : Int} (h : 0 ≤ z) : (xnat z : Int) = z := by
  cases z with
  | ofNat n => rfl
  | negSucc n => omega
theorem xin32_iff {z : Int} (h : xin32 z = true) : -2147483648 ≤ z ∧ z < 2147483648 := by
  unfold xin32 at h
  cases h1 : xilt z (Int.negSucc 2147483647) with
  | true => rw [h1] at h; cases h
  | false =>
    rw [h1] at h
    have h2 := xilt_no h1
    have h3 := xilt_iff.mp (show xilt z (Int.ofNat 2147483648) = true from h)
    have e1 : (Int.negSucc 2147483647) = -2147483648 := rfl
    have e2 : (Int.ofNat 2147483648) = 2147483648 := rfl
    rw [e1] at h2; rw [e2] at h3
    exact ⟨h2, h3⟩
theorem xin63_iff {z : Int} (h : xin63 z = true) : -9223372036854775808 ≤ z ∧ z < 9223372036854775808 := by
  unfold xin63 at h
  cases h1 : xilt z (Int.negSucc 9223372036854775807) with
  | true => rw [h1] at h; cases h
  | false =>
    rw [h1] at h
    have h2 := xilt_no h1
    have h3 := xilt_iff.mp (show xilt z (Int.ofNat 9223372036854775808) = true from h)
    have e1 : (Int.negSucc 9223372036854775807) = -9223372036854775808 := rfl
    have e2 : (Int.ofNat 9223372036854775808) = 9223372036854775808 := rfl
    rw [e1] at h2; rw [e2] at h3
    exact ⟨h2, h3⟩
/-! what a good end says of each part of a way -/
theorem xg4 {r : xO} (h : xfail = r) (g : r.1 ≤ 3) : False := by subst h; exact absurd g (by show ¬ (4 : Nat) ≤ 3; omega)
theorem xg5 {v : Nat} {c : Int} {r : xO} (h : xask v c = r) (g : r.1 ≤ 3) : False := by subst h; exact absurd g (by show ¬ (5 : Nat) ≤ 3; omega)
theorem xcf {b : Bool} {x r : xO} (h : cond b x xfail = r) (g : r.1 ≤ 3) : b = true ∧ x = r := by
  cases b with
  | true => exact ⟨rfl, h⟩
  | false => exact (xg4 h g).elim
theorem xct {b : Bool} {x r : xO} (h : cond b xfail x = r) (g : r.1 ≤ 3) : b = false ∧ x = r := by
  cases b with
  | false => exact ⟨rfl, h⟩
  | true => exact (xg4 h g).elim
theorem xcc {b : Bool} {x y r : xO} (h : cond b x y = r) : (b = true ∧ x = r) ∨ (b = false ∧ y = r) := by
  cases b with
  | true => exact Or.inl ⟨rfl, h⟩
  | false => exact Or.inr ⟨rfl, h⟩
theorem xpop_ok {st : List xV} {k : Nat → Int → List xV → xO} {r : xO} (h : xpop st k = r) (g : r.1 ≤ 3) : ∃ a z t, st = (a, z) :: t ∧ k a z t = r := by
  cases st with
  | nil => exact (xg4 h g).elim
  | cons v t => exact ⟨v.1, v.2, t, rfl, h⟩
theorem xneed_ok {B : xB} {t : Nat} {z : Int} {k : Int → xO} {r : xO} (h : xneed B t z k = r) (g : r.1 ≤ 3) : t = 2 ∧ k z = r := by
  rcases xcc h with ⟨h1, h2⟩ | ⟨h1, h2⟩
  · exact ⟨Nat.eq_of_beq_eq_true h1, h2⟩
  · rcases xcc h2 with ⟨h3, h4⟩ | ⟨h3, h4⟩
    · exact (xg5 h4 g).elim
    · exact (xg4 h4 g).elim
theorem xlook_ok {l : xL} {k : Nat} {f : Nat → Int → xO} {r : xO} (h : xlook l k f = r) : f 99 0 = r ∨ ∃ a z, (k, a, z) ∈ l ∧ f a z = r := by
  induction l with
  | nil => exact Or.inl h
  | cons q l ih =>
    have h' : cond (Nat.beq q.1 k) (f q.2.1 q.2.2) (xlook l k f) = r := h
    rcases xcc h' with ⟨h1, h2⟩ | ⟨h1, h2⟩
    · exact Or.inr ⟨q.2.1, q.2.2, by rw [← Nat.eq_of_beq_eq_true h1]; exact List.mem_cons_self, h2⟩
    · rcases ih h2 with h3 | ⟨a, z, h3, h4⟩
      · exact Or.inl h3
      · exact Or.inr ⟨a, z, List.mem_cons_of_mem _ h3, h4⟩
theorem xcell_ok {n : Nat} {t : xT} {k : Nat} {f : Nat → Nat → List xV → xO} {r : xO} (h : xcell n t k f = r) (g : r.1 ≤ 3) : k < n ∧ ∃ a b l, tget (9, 0, []) 10 t k = (a, b, l) ∧ f a b l = r := by
  obtain ⟨h1, h2⟩ := xcf h g
  exact ⟨Nat.le_of_ble_eq_true h1, _, _, _, rfl, h2⟩
theorem xobj_ok {n : Nat} {t : xT} {a : Nat} {z : Int} {ci : Nat} {f : List xV → xO} {r : xO} (h : xobj n t a z ci f = r) (g : r.1 ≤ 3) : a = 1 ∧ xnat z < n ∧ ∃ l, tget (9, 0, []) 10 t (xnat z) = (0, ci, l) ∧ f l = r := by
  obtain ⟨h1, h2⟩ := xcf h g
  obtain ⟨hk, c1, c2, c3, he, h3⟩ := xcell_ok h2 g
  obtain ⟨h4, h5⟩ := xcf h3 g
  obtain ⟨h6, h7⟩ := xcf h5 g
  exact ⟨Nat.eq_of_beq_eq_true h1, hk, c3, by rw [he, show c1 = 0 from Nat.eq_of_beq_eq_true h4, show c2 = ci from Nat.eq_of_beq_eq_true h6], h7⟩
theorem xarr_ok {n : Nat} {t : xT} {a : Nat} {z : Int} {lo hi : Nat} {f : Nat → List xV → xO} {r : xO} (h : xarr n t a z lo hi f = r) (g : r.1 ≤ 3) : a = 1 ∧ xnat z < n ∧ ∃ c l, tget (9, 0, []) 10 t (xnat z) = (1, c, l) ∧ lo ≤ c ∧ c ≤ hi ∧ f c l = r := by
  obtain ⟨h1, h2⟩ := xcf h g
  obtain ⟨hk, c1, c2, c3, he, h3⟩ := xcell_ok h2 g
  obtain ⟨h4, h5⟩ := xcf h3 g
  obtain ⟨h6, h7⟩ := xcf h5 g
  obtain ⟨h8, h9⟩ := xcf h7 g
  exact ⟨Nat.eq_of_beq_eq_true h1, hk, c2, c3, by rw [he, show c1 = 1 from Nat.eq_of_beq_eq_true h4], Nat.le_of_ble_eq_true h6, Nat.le_of_ble_eq_true h8, h9⟩
theorem xidx_ok {x : Int} {k r : xO} (h : xidx x k = r) (g : r.1 ≤ 3) : 0 ≤ x ∧ x < 2147483648 ∧ k = r := by
  obtain ⟨h1, h2⟩ := xct h g
  obtain ⟨h3, h4⟩ := xcf h2 g
  exact ⟨xilt_no h1, xilt_iff.mp h3, h4⟩
/-! compares -/
/-- the bounds hold of the script's ints -/
def xbds (B : xB) (ρ : xE) : Prop := ∀ j, (xlo B j).1 ≤ (ρ.2.2 j).toInt ∧ (ρ.2.2 j).toInt ≤ (xlo B j).2
theorem xofInt {z : Int} (h1 : -2147483648 ≤ z) (h2 : z < 2147483648) : (Int32.ofInt z).toInt = z := Int32.toInt_ofInt_of_le (by simpa using h1) (by simpa using h2)
theorem xbd_ok {B : xB} {ρ : xE} (hB : xbds B ρ) {t : Nat} {z : Int} {k : Int → Int → xO} {r : xO} (h : xbd B t z k = r) (g : r.1 ≤ 3) : ∃ (x : Int32) (a b : Int), xD ρ (t, z) = .int x ∧ a ≤ x.toInt ∧ x.toInt ≤ b ∧ k a b = r := by
  rcases xcc h with ⟨h1, h2⟩ | ⟨h1, h2⟩
  · obtain ⟨h3, h4⟩ := xcf h2 g
    obtain ⟨h5, h6⟩ := xin32_iff h3
    have : t = 2 := Nat.eq_of_beq_eq_true h1
    subst this
    exact ⟨_, z, z, rfl, by rw [xofInt h5 h6]; exact Int.le_refl _, by rw [xofInt h5 h6]; exact Int.le_refl _, h4⟩
  · obtain ⟨h3, h4⟩ := xcf h2 g
    have : t = 5 := Nat.eq_of_beq_eq_true h3
    subst this
    exact ⟨_, _, _, rfl, (hB (xnat z)).1, (hB (xnat z)).2, h4⟩
theorem xlt_ok {B : xB} {ρ : xE} (hB : xbds B ρ) {t u : Nat} {z w : Int} {y n r : xO} (h : xlt B t z u w y n = r) (g : r.1 ≤ 3) : ∃ a b : Int32, xD ρ (t, z) = .int a ∧ xD ρ (u, w) = .int b ∧ ((a < b ∧ y = r) ∨ (¬ a < b ∧ n = r)) := by
  obtain ⟨x, a, b, h1, h2, h3, h4⟩ := xbd_ok hB h g
  obtain ⟨x', c, d, h5, h6, h7, h8⟩ := xbd_ok hB h4 g
  refine ⟨x, x', h1, h5, ?_⟩
  rcases xcc h8 with ⟨k1, k2⟩ | ⟨k1, k2⟩
  · have := xilt_iff.mp k1
    exact Or.inl ⟨Int32.lt_iff_toInt_lt.mpr (by omega), k2⟩
  · rcases xcc k2 with ⟨k3, k4⟩ | ⟨k3, k4⟩
    · rcases xcc k4 with ⟨-, k5⟩ | ⟨-, k5⟩
      · exact (xg5 k5 g).elim
      · rcases xcc k5 with ⟨-, k6⟩ | ⟨-, k6⟩
        · exact (xg5 k6 g).elim
        · exact (xg4 k6 g).elim
    · have := xilt_no k3
      exact Or.inr ⟨fun q => by have := Int32.lt_iff_toInt_lt.mp q; omega, k4⟩
theorem xsplit_ok {t u : Nat} {z w a b : Int} {r : xO} (h : xsplit t z u w a b = r) (g : r.1 ≤ 3) : False := by
  rcases xcc h with ⟨-, k5⟩ | ⟨-, k5⟩
  · exact xg5 k5 g
  · rcases xcc k5 with ⟨-, k6⟩ | ⟨-, k6⟩
    · exact xg5 k6 g
    · exact xg4 k6 g
theorem xeq_ok {B : xB} {ρ : xE} (hB : xbds B ρ) {t u : Nat} {z w : Int} {y n r : xO} (h : xeq B t z u w y n = r) (g : r.1 ≤ 3) : ∃ a b : Int32, xD ρ (t, z) = .int a ∧ xD ρ (u, w) = .int b ∧ ((a = b ∧ y = r) ∨ (¬ a = b ∧ n = r)) := by
  obtain ⟨x, a, b, h1, h2, h3, h4⟩ := xbd_ok hB h g
  obtain ⟨x', c, d, h5, h6, h7, h8⟩ := xbd_ok hB h4 g
  refine ⟨x, x', h1, h5, ?_⟩
  rcases xcc h8 with ⟨k1, k2⟩ | ⟨k1, k2⟩
  · have := xilt_iff.mp k1
    exact Or.inr ⟨fun q => by rw [q] at h3; omega, k2⟩
  · rcases xcc k2 with ⟨k3, k4⟩ | ⟨k3, k4⟩
    · have := xilt_iff.mp k3
      exact Or.inr ⟨fun q => by rw [q] at h2; omega, k4⟩
    · rcases xcc k4 with ⟨k5, k6⟩ | ⟨k5, k6⟩
      · rcases xcc k6 with ⟨k7, k8⟩ | ⟨k7, k8⟩
        · have e1 := xieq_iff.mp k5
          have e2 := xieq_iff.mp k7
          have e3 := xilt_no k1
          have e4 := xilt_no k3
          exact Or.inl ⟨Int32.toInt_inj.mp (by omega), k8⟩
        · exact (xsplit_ok k8 g).elim
      · exact (xsplit_ok k6 g).elim
theorem xsum_eq {ρ : xE} : ∀ {st : List xV}, ((st.map (xD ρ)).map fun v => v.category).sum = xsum st
  | [] => rfl
  | v :: st => by
    have h := xsum_eq (ρ := ρ) (st := st)
    rw [List.map_cons, List.map_cons, List.sum_cons, h, show (xD ρ v).category = cond (xtwo v.1) 2 1 from xcat]
    rfl
