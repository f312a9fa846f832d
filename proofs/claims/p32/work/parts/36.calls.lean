/-! CALLS over a picture -/
def xexN (i : Nat) : String := ["java/lang/IllegalArgumentException", "java/lang/ArithmeticException", "java/util/NoSuchElementException", "java/lang/UnsupportedOperationException", "java/lang/IndexOutOfBoundsException", "java/lang/IllegalStateException"].getD i ""
def rst (r : xO) : List xV := r.2.2.2.2.2.1
def rex (r : xO) : Bool := r.2.2.2.2.2.2.1
def rn (r : xO) : Nat := r.2.2.2.2.2.2.2.1
def rt (r : xO) : xT := r.2.2.2.2.2.2.2.2.1
theorem xWorld_warm {D : va_G} {ca : Nat → ClassId} {ρ : xE} {s U : State} (hW : s.WarmedH U.vm) (hq : ∀ q : Nat, q < ρ.1 → U.heap[q]? = s.heap[q]?) (h : xWorld D ca ρ s) : xWorld D ca ρ U := by
  obtain ⟨h1, h2, h3, h4, ⟨h5, h6⟩, h7, h8⟩ := h
  refine ⟨h1.moved hW.alike, fun w hw hn => ?_, fun i hi => (h3 i hi).moved hW.alike, fun own i tx hw => ?_, ⟨fun q hq => (h5 q hq).moved hW.alike, ?_⟩, (h7.kept (fun a _ hA => hq a (Nat.not_le.mp hA))).moved hW.alike, (h8.kept (fun a _ hA => hq a (Nat.not_le.mp hA))).moved hW.alike⟩
  · have h := h2 w hw hn
    cases w <;> first | exact va_Nw.warmF hW h | exact va_Nw.warmM hW h | exact va_Nw.warmC hW h | exact va_Nw.warmD hW h | (exfalso; revert hn; simp [xnest])
  · obtain ⟨sa, h⟩ := h4 own i tx hw
    exact ⟨sa, h.warm hW⟩
  · obtain ⟨adK, adV, s1, s2, s3, s4, s5⟩ := h6
    exact ⟨adK, adV, (s1.kept (fun a _ hA => hq a (Nat.not_le.mp hA))).moved hW.alike, s2.warm hW, s3.warm hW, (s4.kept (fun a _ hA => hq a (Nat.not_le.mp hA))).moved hW.alike, (s5.kept (fun a _ hA => hq a (Nat.not_le.mp hA))).moved hW.alike⟩
def xPc (D : va_G) (ca : Nat → ClassId) (ρ : xE) (H0 : Heap) (as : List xV) (ex : Bool) (n : Nat) (t : xT) : Array Value → State → Prop := fun av U => av = (as.map (xD ρ)).toArray ∧ xWorld D ca ρ U ∧ xRel D ca ρ H0 ex n t U.heap []
def xQc (D : va_G) (ca : Nat → ClassId) (ρ : xE) (H0 : Heap) (r : xO) : Array Value → State → Outcome → State → Prop := fun _ _ o t => r.1 = 1 ∧ o = .returned ((rst r).head?.map (xD ρ)) ∧ xRel D ca ρ H0 (rex r) (rn r) (rt r) t.heap []
def xXC (D : va_G) (ca : Nat → ClassId) (ρ : xE) (H0 : Heap) (r : xO) : String → State → State → Prop := fun E _ t => r.1 ≠ 1 ∧ E = xexN r.2.1 ∧ xRel D ca ρ H0 false (rn r) (rt r) t.heap []
theorem xPc_blind {D : va_G} {ca : Nat → ClassId} {ρ : xE} {H0 : Heap} {as : List xV} {ex : Bool} {n : Nat} {t : xT} : FrameBlind (xPc D ca ρ H0 as ex n t) := fun _ U g mk h => ⟨h.1, xWorld_warm (U := U.calling g mk _) (State.WarmedH.refl U) (fun _ _ => rfl) h.2.1, h.2.2⟩
/-- thrown over a frame -/
def XX (p : Program) (l : Launch) (e : Env) (R : Room) (s : State) (m : MethodId) (args : Array Value) (below : List Frame) (meth : Method) (c : Code) (Q : State → Prop) (D : va_G) (ca : Nat → ClassId) (ρ : xE) (H0 : Heap) (nL : Nat) (E pc : Nat) (ls : xL) (st : List xV) (n : Nat) (t : xT) (a b : Nat) : Prop :=
  ∀ (H : Heap) (locs : List Loc) (lsA : Array Slot) (q : Addr) (ce : Cell), xRel D ca ρ H0 false n t H locs → lv_has lsA nL (xM ρ ls) → H[q]? = some ce → ce.vm = .none → s.vm.findClass (xexN E) = some ce.cls → vx_W p l e R s m args below meth c H locs a b Q (F0 m pc lsA (st.map (xD ρ))) q
section XR4
variable {p : Program} {l : Launch} {e : Env} {R : Room} {s : State} {m : MethodId} {args : Array Value} {below : List Frame} {meth : Method} {c : Code} {Q : State → Prop} {D : va_G} {ca : Nat → ClassId} {ρ : xE} {H0 : Heap} {nL : Nat}
variable {cc : ByteArray} {pc : Nat} {ls : xL} {st : List xV} {ex : Bool} {n : Nat} {t : xT} {a b : Nat}
theorem x_after {H : Heap} {locs : List Loc} {lsA : Array Slot} {st0 : List Value} {mc ms : Nat} {r : xO} {av : Array Value}
    (hr : vx_Run p l e R s m args below meth c H locs a b mc ms (F0 m pc lsA st0) (st.map (xD ρ)) (xQc D ca ρ H0 r av) (xXC D ca ρ H0 r) (fun q => ρ.1 ≤ q)) (hR : xRel D ca ρ H0 ex n t H locs) (hL : lv_has lsA nL (xM ρ ls)) (h1 : r.1 = 1 → (rst r).length ≤ 1)
    (kr : r.1 = 1 → XG p l e R s m args below meth c Q D ca ρ H0 nL (pc + 3) ls (rst r ++ st) (rex r) (rn r) (rt r) (a + mc) (b + ms)) (kx : r.1 ≠ 1 → XX p l e R s m args below meth c Q D ca ρ H0 nL r.2.1 pc ls st (rn r) (rt r) (a + mc) (b + ms)) : W p l e R s m args below meth c H locs a b Q (F0 m pc lsA st0) := by
  intro T hT X
  have locsOk : ∀ {L : List Loc}, (∀ q ∈ L, ρ.1 ≤ q.base) → ∀ {ex' : Bool} {n' : Nat} {t' : xT} {H' : Heap}, xRel D ca ρ H0 ex' n' t' H' [] → xRel D ca ρ H0 ex' n' t' H' (locs ++ L) := by
    intro L hLL ex' n' t' H' h
    obtain ⟨g1, g2, g3, g4, g5⟩ := h
    refine ⟨g1, g2, g3, ⟨g4.1, g4.2.1, fun z hz => ?_⟩, g5⟩
    rcases List.mem_append.mp hz with hz | hz
    · exact hR.2.2.2.1.2.2 z hz
    · exact hLL z hz
  rcases hr T hT X with ⟨v, st₀, t9, T', L, h0, X', hLL, e1, e2, ⟨q1, q2, q3⟩, go⟩ | ⟨q, st₀, t9, T', L, E, ce, h0, X', hLL, e1, e2, ⟨q1, q2, q3⟩, hce, hcv, hcl, go⟩
  · have hv : v = (rst r).head?.map (xD ρ) := by
      have := q2
      injection this
    have hs : v.toList ++ st.map (xD ρ) = (rst r ++ st).map (xD ρ) := by
      rw [hv, List.map_append]
      have h1 := h1 q1
      revert h1
      cases rst r with
      | nil => intro _; rfl
      | cons x y => intro h1; cases y with
        | nil => rfl
        | cons _ _ => simp at h1
    rw [← e1] at q3
    obtain ⟨t2, a1, b1⟩ := kr q1 T'.heap (locs ++ L) lsA (locsOk hLL q3) hL T' rfl X'
    refine ⟨t2, go t2 ?_, b1⟩
    show Steps p.tables e below (T'.setTop (F0 m (pc + 3) lsA (v.toList ++ st.map (xD ρ)))) t2
    rw [hs]
    exact a1
  · rw [← e1] at q3 hce
    obtain ⟨t2, a1, b1⟩ := kx q1 T'.heap (locs ++ L) lsA q ce (locsOk hLL q3) hL hce hcv (by rw [← q2]; exact hcl) T' rfl X'
    exact ⟨t2, go.trans a1, b1⟩
theorem xtake_ok {k : List xV → List xV → xO} {r : xO} (g : r.1 ≤ 3) : ∀ {n : Nat} {acc st : List xV}, xtake n acc st k = r → ∃ xs st', st = xs ++ st' ∧ xs.length = n ∧ k (xs.reverse ++ acc) st' = r
  | 0, acc, st, h => ⟨[], st, rfl, rfl, h⟩
  | n + 1, acc, [], h => (xg4 h g).elim
  | n + 1, acc, v :: st, h => by
    obtain ⟨xs, st', e1, e2, e3⟩ := xtake_ok g (n := n) (acc := v :: acc) (st := st) h
    refine ⟨v :: xs, st', by rw [e1]; rfl, by simp [e2], ?_⟩
    rw [List.reverse_cons, List.append_assoc]
    exact e3
theorem xroom_ok {P P9 : xQ} {st : List xV} {c d : Nat} {k : Nat → Nat → xO} {r : xO} (h : xroom P P9 st c d k = r) (g : r.1 ≤ 3) : xsum st ≤ 8 ∧ c + P9.2.2.2.1 ≤ P.2.2.2.1 ∧ d + P9.2.2.2.2 ≤ P.2.2.2.2 ∧ k (c + P9.2.2.2.1) (d + P9.2.2.2.2) = r := by
  obtain ⟨h1, h2⟩ := xcf h g
  rw [xforce_eq] at h2
  obtain ⟨h3, h4⟩ := xcf h2 g
  rw [xforce_eq] at h4
  obtain ⟨h5, h6⟩ := xcf h4 g
  exact ⟨Nat.le_of_ble_eq_true h1, Nat.le_of_ble_eq_true h3, Nat.le_of_ble_eq_true h5, h6⟩
theorem xans_len {r : Nat} : ∀ {st : List xV}, xans r st = true → st.length ≤ 1
  | [], _ => by simp
  | [_], _ => by simp
  | _ :: _ :: _, h => by cases h
/-- the ways behind a call -/
theorem xback_ok {P P9 : xQ} {r r' : xO} {go : xG} {pc : Nat} {ls : xL} {st : List xV} {c d : Nat} (h : xback P P9 r go pc ls st c d = r') (g : r'.1 ≤ 3) :
    (r.1 = 1 ∧ (xans P9.2.2.1 (rst r) = true ∧ r.2.1 = xrd P9.2.2.1) ∧ go (pc + 3) ls (rst r ++ st) (rex r) (rn r) (rt r) c d = r') ∨
    (r.1 ≠ 1 ∧ r.1 ≤ 3 ∧ P9.1 = [] ∧ ((P.1 = [] ∧ (3, r.2.1, 0, pc, ls, st, false, rn r, rt r, c, d) = r') ∨ (P.1 ≠ [] ∧ xtab P.1 r.2.1 pc (fun i pc => go pc (xfilt (fun q => xkeep i 1 q) ls) [] false (rn r) (rt r) c d) = r'))) := by
  obtain ⟨k, v, y, pc9, ls9, st9, ex9, n9, t9, c9, d9⟩ := r
  rcases xcc h with ⟨h1, h2⟩ | ⟨h1, h2⟩
  · obtain ⟨h3, h4⟩ := xcf h2 g
    obtain ⟨h5, h6⟩ := xcf h4 g
    exact Or.inl ⟨Nat.eq_of_beq_eq_true h1, ⟨h3, Nat.eq_of_beq_eq_true h5⟩, h6⟩
  · rcases xcc h2 with ⟨h3, h4⟩ | ⟨h3, h4⟩
    · refine Or.inr ⟨Nat.ne_of_beq_eq_false h1, Nat.le_of_ble_eq_true h3, ?_⟩
      revert h4
      cases hP9 : P9.1 with
      | cons _ _ => intro h4; exact (xg4 h4 g).elim
      | nil =>
        intro h4
        refine ⟨rfl, ?_⟩
        revert h4
        cases hP : P.1 with
        | nil => intro h4; exact Or.inl ⟨rfl, h4⟩
        | cons _ _ => intro h4; exact Or.inr ⟨by simp, h4⟩
    · rcases xcc h4 with ⟨-, h5⟩ | ⟨-, h5⟩
      · exact (xg5 h5 g).elim
      · exact (xg4 h5 g).elim
end XR4
