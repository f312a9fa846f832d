/-! A PICTURE OF THE HEAP, and one row an instruction over it -/
noncomputable def xcl : List vw_C := [(RX1, TX1, 7), (RX2, TX2, 9), (RX3, TX3, 6), (RX4, TX4, 16), (RX5, TX5, 3), (RX7, TX7, 6), (RX8, TX8, 6), (RX9, TX9, 3), (RX8, TX8, 6), (RX8, TX8, 6), (RX8, TX8, 6)]
/-- types of arrays: int, char (2 .. 4: none of the class), then references of a class -/
def xtyC (i : Nat) : String := [RX8, RX7, RX2, RX1, RX8, RX8].getD i ""
def xtyF (i : Nat) : FieldType := [FieldType.int, .char, .int, .int, .int, .object RX8, .object RX7, .object RX2, .object RX1, .object RX8, .object RX8].getD i .int
noncomputable def xtys (ca : Nat → ClassId) : List (ClassId × FieldType) := (List.range 11).map (fun i => (ca i, xtyF i))
theorem xtys_at (ca : Nat → ClassId) {i : Nat} (h : i ≤ 10) : (xtys ca)[i]? = some (ca i, xtyF i) := by
  unfold xtys
  rw [List.getElem?_map, List.getElem?_range (by omega)]
  rfl
def xvi (v : Value) : Int32 := match v with
  | .int x => x
  | _ => 0
def xvl (v : Value) : Int64 := match v with
  | .long x => x
  | _ => 0
def xvd (v : Value) : UInt64 := match v with
  | .double x => x
  | _ => 0
def xvq (v : Value) : Option Nat := match v with
  | .ref x => some x
  | _ => none
noncomputable def xdA (ρ : xE) (ty : Nat) (l : List xV) : vp_A := (l.length, cond (Nat.ble ty 2) (.inl fun j => xvi (xD ρ (lget (99, 0) l j))) (cond (Nat.beq ty 3) (.inr (.inl fun j => xvl (xD ρ (lget (99, 0) l j)))) (cond (Nat.beq ty 4) (.inr (.inr (.inr (.inl fun j => xvd (xD ρ (lget (99, 0) l j)))))) (.inr (.inr (.inr (.inr fun j => xvq (xD ρ (lget (99, 0) l j)))))))))
noncomputable def xdC (ca : Nat → ClassId) (ρ : xE) (c : xC) : va_E := cond (Nat.beq c.1 0) (.inr (c.2.1, c.2.2.map (xD ρ))) (.inl (ca c.2.1, xdA ρ c.2.1 c.2.2))
noncomputable def xW (ca : Nat → ClassId) (ρ : xE) (n : Nat) (t : xT) : va_W := (List.range n).map (fun k => (ρ.1 + k, xdC ca ρ (tget (9, 0, []) 10 t k)))
theorem xW_at {ca : Nat → ClassId} {ρ : xE} {n : Nat} {t : xT} {k : Nat} (h : k < n) : (xW ca ρ n t)[k]? = some (ρ.1 + k, xdC ca ρ (tget (9, 0, []) 10 t k)) := by
  unfold xW
  rw [List.getElem?_map, List.getElem?_range h]
  rfl
theorem xW_D {ca : Nat → ClassId} {ρ : xE} {n : Nat} {t : xT} : va_D (fun q => ρ.1 ≤ q) (xW ca ρ n t) := by
  have key : ∀ (k : Nat) (q : Nat × va_E), (xW ca ρ n t)[k]? = some q → q.1 = ρ.1 + k := by
    intro k q h
    have hk : k < n := by
      have := (List.getElem?_eq_some_iff.mp h).1
      simpa [xW] using this
    rw [xW_at hk] at h
    rw [← Option.some.inj h]
  refine ⟨fun i j p q hp hq e => ?_, fun k q hq => ?_⟩
  · have h1 := key i p hp
    have h2 := key j q hq
    omega
  · have h1 := key k q hq
    show ρ.1 ≤ q.1
    omega
theorem xW_set {ca : Nat → ClassId} {ρ : xE} {n : Nat} {t : xT} {k : Nat} (c : xC) (hk : k < n) (hn : n ≤ 1024) : (xW ca ρ n t).set k (ρ.1 + k, xdC ca ρ c) = xW ca ρ n (tset c 10 t k) := by
  refine List.ext_getElem? fun j => ?_
  by_cases hj : j < n
  · rw [xW_at hj, tget_set _ _ 10 t k j (by omega) (by omega), List.getElem?_set]
    by_cases e : k = j
    · subst e
      rw [if_pos rfl, if_pos rfl, if_pos (by simpa [xW] using hj)]
    · rw [if_neg e, if_neg (fun q => e q.symm), xW_at hj]
  · rw [List.getElem?_eq_none (by simp [xW]; omega), List.getElem?_eq_none (by simp [xW]; omega)]
theorem xW_push {ca : Nat → ClassId} {ρ : xE} {n : Nat} {t : xT} (c : xC) (hn : n < 1024) : xW ca ρ n t ++ [(ρ.1 + n, xdC ca ρ c)] = xW ca ρ (n + 1) (tset c 10 t n) := by
  refine List.ext_getElem? fun j => ?_
  have hl : (xW ca ρ n t).length = n := by simp [xW]
  by_cases hj : j < n
  · rw [xW_at (by omega), tget_set _ _ 10 t n j (by omega) (by omega), if_neg (by omega), List.getElem?_append_left (by omega), xW_at hj]
  · by_cases e : j = n
    · subst e
      rw [xW_at (by omega), tget_set _ _ 10 t j j (by omega) (by omega), if_pos rfl, List.getElem?_append_right (by omega), hl, Nat.sub_self]
      rfl
    · rw [List.getElem?_eq_none (by simp [xW]; omega), List.getElem?_eq_none (by simp [xW]; omega)]
/-- the heap holds the picture: n cells from ρ.1 on; what lies below is as in H0; ex: nothing lies behind -/
def xRel (D : va_G) (ca : Nat → ClassId) (ρ : xE) (H0 : Heap) (ex : Bool) (n : Nat) (t : xT) (H : Heap) (locs : List Loc) : Prop :=
  va_P D xcl (xW ca ρ n t) H ∧ n ≤ 1024 ∧ (ex = true → H.size = ρ.1 + n) ∧ va_S (fun q => ρ.1 ≤ q) H0 H locs ∧ ρ.1 = H0.size
theorem xRel_set {D : va_G} {ca : Nat → ClassId} {ρ : xE} {H0 H H1 : Heap} {ex : Bool} {n : Nat} {t : xT} {locs : List Loc} (hR : xRel D ca ρ H0 ex n t H locs) {k : Nat} (hk : k < n) (c : xC) (j : Nat)
    (hat : va_at D xcl (ρ.1 + k, xdC ca ρ c) H1) (hz : H1.size = H.size) (oq : ∀ q : Nat, q ≠ ρ.1 + k → H1[q]? = H[q]?) : xRel D ca ρ H0 ex n (tset c 10 t k) H1 (locs ++ [⟨ρ.1 + k, j⟩]) := by
  obtain ⟨hP, hn, hx, hS, hB⟩ := hR
  refine ⟨?_, hn, fun h => by rw [hz]; exact hx h, hS.put hz oq (Nat.le_add_right _ _), hB⟩
  have h := hP.set xW_D (xW_at hk) hat oq
  rw [xW_set c hk hn] at h
  exact h
theorem xRel_push {D : va_G} {ca : Nat → ClassId} {ρ : xE} {H0 H H1 : Heap} {n : Nat} {t : xT} {locs : List Loc} (hR : xRel D ca ρ H0 true n t H locs) (hn : n < 1024) (c : xC)
    (hat : va_at D xcl (ρ.1 + n, xdC ca ρ c) H1) (hz : H1.size = H.size + 1) (oq : ∀ q : Nat, q < H.size → H1[q]? = H[q]?) : xRel D ca ρ H0 true (n + 1) (tset c 10 t n) H1 locs := by
  obtain ⟨hP, hn', hx, hS, hB⟩ := hR
  have hs := hx rfl
  refine ⟨?_, hn, fun _ => by omega, ⟨Nat.le_trans hS.1 (by omega), fun q h1 h2 => (oq q (Nat.lt_of_lt_of_le h1 hS.1)).trans (hS.2.1 q h1 h2), hS.2.2⟩, hB⟩
  rw [← xW_push c hn]
  refine (hP.kept (fun k x hx => oq x.1 ((hP k x hx).lt))).app (fun k x hx => ?_)
  have hz : k < 1 := (List.getElem?_eq_some_iff.mp hx).1
  rw [show k = 0 by omega] at hx
  cases hx
  exact hat
/-- an exception more behind the picture -/
theorem xRel_more {D : va_G} {ca : Nat → ClassId} {ρ : xE} {H0 H H1 : Heap} {ex : Bool} {n : Nat} {t : xT} {locs locs1 : List Loc} (hR : xRel D ca ρ H0 ex n t H locs) (hz : H.size ≤ H1.size) (oq : ∀ q : Nat, q < H.size → H1[q]? = H[q]?) (hl : ∀ l ∈ locs1, ρ.1 ≤ l.base) : xRel D ca ρ H0 false n t H1 locs1 := by
  obtain ⟨hP, hn, hx, hS, hB⟩ := hR
  exact ⟨hP.kept (fun k x hx => oq x.1 ((hP k x hx).lt)), hn, fun h => (by cases h), ⟨Nat.le_trans hS.1 hz, fun q h1 h2 => (oq q (Nat.lt_of_lt_of_le h1 hS.1)).trans (hS.2.1 q h1 h2), hl⟩, hB⟩
/-- the good words of the tables -/
def xgw : List Cond := lw_tbl.filter goodWord
/-- those that hold on by rows of their own -/
def xnest (w : Cond) : Bool := match w with
  | .fieldLinkNest .. => true
  | .methodLinkNest .. => true
  | .castable .. => true
  | .declares .. => true
  | _ => false
def xncs : List (String × String) := [("java/lang/IllegalArgumentException", "java/lang/IndexOutOfBoundsException"), ("java/lang/IllegalStateException", "java/lang/IndexOutOfBoundsException"), ("java/lang/IllegalStateException", "java/lang/IllegalArgumentException"), ("java/lang/UnsupportedOperationException", "java/lang/IndexOutOfBoundsException"), ("java/lang/UnsupportedOperationException", "java/lang/IllegalArgumentException"), ("java/lang/UnsupportedOperationException", "java/lang/IllegalStateException"), ("java/util/NoSuchElementException", "java/lang/IndexOutOfBoundsException"), ("java/util/NoSuchElementException", "java/lang/IllegalArgumentException"), ("java/util/NoSuchElementException", "java/lang/IllegalStateException"), ("java/util/NoSuchElementException", "java/lang/UnsupportedOperationException")]
/-- the two texts that are looked into -/
def xbyt : List (List Int32) := [[110, 104, 108, 115, 103, 112, 43, 45, 42, 47, 60, 61, 122, 106, 111, 102, 113, 99, 114, 116, 107, 101], [110, 110, 104, 108, 115, 103, 112, 43, 45, 42, 47, 60, 61, 122, 106, 111, 102, 113, 99, 114, 114, 116, 107, 101]]
def xStr (ρ : xE) (s : State) : Prop := ∃ adK adV : Nat → Nat, vk_S 2 [22, 24] xbyt adK adV (fun q => ρ.1 ≤ q) s s.heap ∧ vk_R "PolyglotPier" 56 "nhlsgp+-*/<=zjofqcrtke" (adK 0) s ∧ vk_R "PolyglotPierLaw" 143 "nnhlsgp+-*/<=zjofqcrrtke" (adK 1) s ∧
  va_Z "java/lang/String" "COMPACT_STRINGS" "Z" (.int 1) (fun q => ρ.1 ≤ q) s s.heap ∧ va_Zq "jdk/internal/util/Preconditions" "SIOOBE_FORMATTER" "Ljava/util/function/BiFunction;" (fun q => ρ.1 ≤ q) s s.heap
/-- what holds of the tables and of what lies below the picture, wherever a method begins -/
def xWorld (D : va_G) (ca : Nat → ClassId) (ρ : xE) (s : State) : Prop :=
  va_K D xcl (xtys ca) s ∧ (∀ w ∈ lw_tbl, xnest w = true → va_Nw w s) ∧ (∀ i, i ≤ 5 → va_AO (xtyC i) s) ∧ (∀ own i tx, Cond.stringRef own i tx ∈ lw_tbl → ∃ sa, vk_R own i tx sa s) ∧
  ((∀ q ∈ xncs, va_Nc q.1 q.2 s) ∧ xStr ρ s) ∧
  vx_Zq Bundle.tN "UNASSIGNED_STACK" Bundle.steD (fun q => ρ.1 ≤ q) s s.heap ∧ vx_Zq Bundle.tN "SUPPRESSED_SENTINEL" Bundle.listD (fun q => ρ.1 ≤ q) s s.heap
