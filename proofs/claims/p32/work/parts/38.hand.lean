/-! EVERY INSTRUCTION of the executor -/
def xfty (z : Nat) (F : FieldType) : Bool := match z with | 0 => decide (F = .int) | 1 => decide (F = .char) | 2 => decide (F = .boolean) | 3 => decide (F = .long) | 4 => decide (F = .double) | _ => F.isReference
theorem xfty_ok {F : FieldType} : ∀ (z : Nat), xfty z F = true → (match z with | 0 => F = .int | 1 => F = .char | 2 => F = .boolean | 3 => F = .long | 4 => F = .double | _ => F.isReference = true)
  | 0, h => (of_decide_eq_true h : F = .int)
  | 1, h => (of_decide_eq_true h : F = .char)
  | 2, h => (of_decide_eq_true h : F = .boolean)
  | 3, h => (of_decide_eq_true h : F = .long)
  | 4, h => (of_decide_eq_true h : F = .double)
  | _ + 5, h => h
section XHO
variable {p : Program} {l : Launch} {e : Env} {R : Room} {s : State} {m : MethodId} {args : Array Value} {below : List Frame} {meth : Method} {c : Code} {Q : State → Prop} {D : va_G} {ca : Nat → ClassId} {ρ : xE} {H0 : Heap} {nL : Nat}
variable {cc : ByteArray} {pc : Nat} {ls : xL} {st : List xV} {ex : Bool} {n : Nat} {t : xT} {a b : Nat}
/-- a return, by its kind -/
def xisr (ins : Instr) (k : Nat) : Prop := (ins = .ireturn ∧ k = 1) ∨ (ins = .lreturn ∧ k = 4) ∨ (ins = .dreturn ∧ k = 5) ∨ (ins = .freturn ∧ k = 7) ∨ (ins = .areturn ∧ k = 6) ∨ (ins = .return_ ∧ k = 0)
/-- an end: at a return; at a throw; thrown by a callee and not caught -/
def xTerm (p : Program) (l : Launch) (e : Env) (R : Room) (s : State) (m : MethodId) (args : Array Value) (below : List Frame) (meth : Method) (c : Code) (Q : State → Prop) (D : va_G) (ca : Nat → ClassId) (ρ : xE) (H0 : Heap) (nL : Nat) (cc : ByteArray) (P2 : xQ) (r : xO) (pc : Nat) (ls : xL) (st : List xV) (ex : Bool) (n : Nat) (t : xT) (a b : Nat) : Prop :=
  (∃ ins k, r = (1, k, 0, pc, ls, st, ex, n, t, a, b) ∧ xisr ins k ∧ decode cc pc = .ok (ins, 1) ∧ a ≤ P2.2.2.2.1 ∧ b ≤ P2.2.2.2.2) ∨
  (∃ E i, r = (2, E, 0, pc, ls, st, ex, n, t, a, b) ∧ decode cc pc = .ok (.new i, 3) ∧ (∃ ow : String, s.vm.findClass ow = some m.cls ∧ xthr ow cc pc i E = true) ∧ xsum st ≤ 8 ∧ a + 1 ≤ P2.2.2.2.1 ∧ b + 6 ≤ P2.2.2.2.2) ∨
  (∃ E st' n' t' a' b', r = (3, E, 0, pc, ls, st', false, n', t', a', b') ∧ P2.1 = [] ∧ a' ≤ P2.2.2.2.1 ∧ b' ≤ P2.2.2.2.2 ∧ (XX p l e R s m args below meth c Q D ca ρ H0 nL E pc ls st' n' t' a' b' → XG p l e R s m args below meth c Q D ca ρ H0 nL pc ls st ex n t a b))
/-- it goes on -/
def xGoes (p : Program) (l : Launch) (e : Env) (R : Room) (s : State) (m : MethodId) (args : Array Value) (below : List Frame) (meth : Method) (c : Code) (Q : State → Prop) (D : va_G) (ca : Nat → ClassId) (ρ : xE) (H0 : Heap) (nL : Nat) (go : xG) (r : xO) (pc : Nat) (ls : xL) (st : List xV) (ex : Bool) (n : Nat) (t : xT) (a b : Nat) : Prop :=
  ∃ pc' ls' st' ex' n' t' a' b', go pc' ls' st' ex' n' t' a' b' = r ∧ (XG p l e R s m args below meth c Q D ca ρ H0 nL pc' ls' st' ex' n' t' a' b' → XG p l e R s m args below meth c Q D ca ρ H0 nL pc ls st ex n t a b)
/-- what the method's own table does with a throw at pc -/
def xCatch (p : Program) (l : Launch) (e : Env) (R : Room) (s : State) (m : MethodId) (args : Array Value) (below : List Frame) (meth : Method) (c : Code) (Q : State → Prop) (D : va_G) (ca : Nat → ClassId) (ρ : xE) (H0 : Heap) (nL : Nat) (P2 : xQ) : Prop :=
  ∀ (E pc : Nat) (ls : xL) (st : List xV) (n : Nat) (t : xT) (a b : Nat) (go : xG) (r : xO), xtab P2.1 E pc (fun i pc => go pc (xfilt (fun q => xkeep i 1 q) ls) [] false n t a b) = r → r.1 ≤ 3 →
    ∃ i pc', go pc' (xfilt (fun q => xkeep i 1 q) ls) [] false n t a b = r ∧ (XG p l e R s m args below meth c Q D ca ρ H0 nL pc' (xfilt (fun q => xkeep i 1 q) ls) [] false n t a b → XX p l e R s m args below meth c Q D ca ρ H0 nL E pc ls st n t a b)
theorem xans_of {r : xO} {k : Nat} (h : xans k (rst r) = true) : (rst r).length ≤ 1 := xans_len h
/-- behind a call: it goes on, is caught, or is passed on -/
theorem x_callback {own nm : String} {d : Nat} {P2 : xQ} {B : xB} {call : xA} (C : xCtx p l R s m args meth c D ca ρ H0 nL cc own nm d P2 B call) (hcat : P2.1 ≠ [] → xCatch p l e R s m args below meth c Q D ca ρ H0 nL P2) {go : xG} {i : Nat} (hi : i < 131) {as : List xV} {st1 st2 : List xV} {r : xO}
    (hr : xback P2 (xmeths i).2 (call i as ex n t) go pc ls st2 (a + (xmeths i).2.2.2.2.1) (b + (xmeths i).2.2.2.2.2) = r) (g : r.1 ≤ 3) (hca : a + (xmeths i).2.2.2.2.1 ≤ P2.2.2.2.1) (hcb : b + (xmeths i).2.2.2.2.2 ≤ P2.2.2.2.2)
    (hrun : ∀ r', xCon l d D ca ρ H0 B.2.1 i as ex n t r' → ∀ {H : Heap} {locs : List Loc} {lsA : Array Slot}, xRel D ca ρ H0 ex n t H locs → lv_has lsA nL (xM ρ ls) → vx_Run p l e R s m args below meth c H locs a b (xmeths i).2.2.2.2.1 (xmeths i).2.2.2.2.2 (F0 m pc lsA (st1.map (xD ρ))) (st2.map (xD ρ)) (xQc D ca ρ H0 r' (as.map (xD ρ)).toArray) (xXC D ca ρ H0 r') (fun q => ρ.1 ≤ q)) :
    xGoes p l e R s m args below meth c Q D ca ρ H0 nL go r pc ls st1 ex n t a b ∨ xTerm p l e R s m args below meth c Q D ca ρ H0 nL cc P2 r pc ls st1 ex n t a b := by
  obtain ⟨f1, f2, f3, f4, f5, f6⟩ := xmf_ok hi
  rcases xback_ok hr g with ⟨h1, h2, h3⟩ | ⟨h1, h2, h3, h4⟩
  · have hM := C.2.2.2.2.2 i as ex n t _ rfl (by omega) hi (Or.inl ⟨h1, h2⟩)
    refine Or.inl ⟨_, _, _, _, _, _, _, _, h3, fun k H locs lsA hR hL => x_after (hrun _ hM hR hL) hR hL (fun _ => xans_len h2.1) (fun _ => k) (fun q => absurd h1 q)⟩
  · have hM := C.2.2.2.2.2 i as ex n t _ rfl h2 hi (Or.inr ⟨h1, f6.mp h3⟩)
    rcases h4 with ⟨h5, h6⟩ | ⟨h5, h6⟩
    · exact Or.inr (Or.inr (Or.inr ⟨_, _, _, _, _, _, h6.symm, h5, hca, hcb, fun k H locs lsA hR hL => x_after (hrun _ hM hR hL) hR hL (fun q => absurd q h1) (fun q => absurd q h1) (fun _ => k)⟩))
    · obtain ⟨i', pc', h7, h8⟩ := hcat h5 _ _ _ st2 _ _ _ _ _ _ h6 g
      exact Or.inl ⟨_, _, _, _, _, _, _, _, h7, fun k H locs lsA hR hL => x_after (hrun _ hM hR hL) hR hL (fun q => absurd q h1) (fun q => absurd q h1) (fun _ => h8 k)⟩
theorem xcc2 {b x y : Bool} (h : cond b x y = true) : (b = true ∧ x = true) ∨ (b = false ∧ y = true) := by
  cases b with
  | true => exact Or.inl ⟨rfl, h⟩
  | false => exact Or.inr ⟨rfl, h⟩
theorem xcallx_ok {P P9 : xQ} {k : List xV → List xV → xO} {r : xO} {i : Nat} (h : xtake i [] st k = r) (g : r.1 ≤ 3) : ∃ as st', st = as.reverse ++ st' ∧ as.length = i ∧ k as st' = r := by
  obtain ⟨xs, st', e1, e2, e3⟩ := xtake_ok g h
  refine ⟨xs.reverse, st', by rw [List.reverse_reverse]; exact e1, by simpa using e2, ?_⟩
  rw [List.append_nil] at e3
  exact e3
set_option maxHeartbeats 4000000 in
set_option maxRecDepth 100000 in
theorem xhand_ok {own nm : String} {d : Nat} {P2 : xQ} {B : xB} {call : xA} (C : xCtx p l R s m args meth c D ca ρ H0 nL cc own nm d P2 B call) (hcat : P2.1 ≠ [] → xCatch p l e R s m args below meth c Q D ca ρ H0 nL P2) {go : xG} {len x y z alt : Nat} {ins : Instr} (hE : xEok own nm nL cc (pc, len, x, y, z) ins alt) {r : xO}
    (hr : xhand ins call (fun j => (xmeths j).2) P2 B len x y z go pc ls st ex n t a b = r) (g : r.1 ≤ 3) : xGoes p l e R s m args below meth c Q D ca ρ H0 nL go r pc ls st ex n t a b ∨ xTerm p l e R s m args below meth c Q D ca ρ H0 nL cc P2 r pc ls st ex n t a b := by
  have C' := C
  obtain ⟨⟨hx, hb, hml, hown, hnm⟩, hts, ⟨hW, hX, hbl, hs0⟩, ⟨hB, hop⟩, ⟨hRf, hRl, hRc, hRs⟩, hcall⟩ := C'
  obtain ⟨hd, hw, hE3, hE4'⟩ := hE
  replace hE4' : ∀ i, ins = .new i → z = 1 → xthr own cc pc i x = true := hE4'
  replace hd : decode cc pc = .ok (ins, len) := hd
  replace hw : ∀ w ∈ xwords own ins x y z alt, w ∈ lw_tbl ∧ (goodWord w = true ∨ xnest w = true) := hw
  replace hE3 : xextra own nm nL ins pc len x y z alt = true := hE3
  cases ins
  case aconst_null =>
    replace hr : (hpush 0 (Int.ofNat 0)) call (fun j => (xmeths j).2) P2 B len x y z go pc ls st ex n t a b = r := hr
    delta hpush at hr
    try dsimp only at hr
    have hl : len = 1 := of_decide_eq_true hE3
    subst hl
    exact Or.inl ⟨_, _, _, _, _, _, _, _, hr, s_null hx hb hd⟩
  case iconst k =>
    replace hr : (hpush 2 k) call (fun j => (xmeths j).2) P2 B len x y z go pc ls st ex n t a b = r := hr
    delta hpush at hr
    try dsimp only at hr
    have hl : len = 1 := of_decide_eq_true hE3
    subst hl
    exact Or.inl ⟨_, _, _, _, _, _, _, _, hr, s_iconst hx hb hd⟩
  case lconst k =>
    replace hr : (hpush 3 (Int.ofNat k.val)) call (fun j => (xmeths j).2) P2 B len x y z go pc ls st ex n t a b = r := hr
    delta hpush at hr
    try dsimp only at hr
    have hl : len = 1 := of_decide_eq_true hE3
    subst hl
    exact Or.inl ⟨_, _, _, _, _, _, _, _, hr, s_lconst hx hb hd⟩
  case dconst k =>
    replace hr : (hpush 4 (Int.ofNat k.val)) call (fun j => (xmeths j).2) P2 B len x y z go pc ls st ex n t a b = r := hr
    delta hpush at hr
    try dsimp only at hr
    have hl : len = 1 := of_decide_eq_true hE3
    subst hl
    exact Or.inl ⟨_, _, _, _, _, _, _, _, hr, s_dconst hx hb hd⟩
  case fconst k =>
    have hl : len = 1 := of_decide_eq_true hE3
    subst hl
    have hr : cond (Nat.beq k.val 0) (hpush 11 (Int.ofNat 0)) hbad call (fun j => (xmeths j).2) P2 B 1 x y z go pc ls st ex n t a b = r := hr
    cases hk : Nat.beq k.val 0 with
    | true =>
      rw [hk] at hr
      exact Or.inl ⟨_, _, _, _, _, _, _, _, hr, s_fconst hx hb (Nat.eq_of_beq_eq_true hk) hd⟩
    | false =>
      rw [hk] at hr
      exact (xg4 hr g).elim
  case bipush k =>
    replace hr : (hpush 2 k) call (fun j => (xmeths j).2) P2 B len x y z go pc ls st ex n t a b = r := hr
    delta hpush at hr
    try dsimp only at hr
    have hE3 : (decide (len = 2) && decide ((Int8.ofInt k).toInt32 = Int32.ofInt k)) = true := hE3
    simp only [Bool.and_eq_true, decide_eq_true_eq] at hE3
    obtain ⟨rfl, h2⟩ := hE3
    exact Or.inl ⟨_, _, _, _, _, _, _, _, hr, s_bipush hx hb hd h2⟩
  case sipush k =>
    replace hr : (hpush 2 k) call (fun j => (xmeths j).2) P2 B len x y z go pc ls st ex n t a b = r := hr
    delta hpush at hr
    try dsimp only at hr
    have hE3 : (decide (len = 3) && decide ((Int16.ofInt k).toInt32 = Int32.ofInt k)) = true := hE3
    simp only [Bool.and_eq_true, decide_eq_true_eq] at hE3
    obtain ⟨rfl, h2⟩ := hE3
    exact Or.inl ⟨_, _, _, _, _, _, _, _, hr, s_sipush hx hb hd h2⟩
  case iload i =>
    replace hr : (hload 2 i) call (fun j => (xmeths j).2) P2 B len x y z go pc ls st ex n t a b = r := hr
    delta hload at hr
    try dsimp only at hr
    have hl : len = 2 := of_decide_eq_true hE3
    subst hl
    rcases xlook_ok hr with h | ⟨u, w, hm, h⟩
    · exact (xg4 h g).elim
    · obtain ⟨h3, h4⟩ := xcf h g
      exact Or.inl ⟨_, _, _, _, _, _, _, _, h4, s_iload hx hb hd hm (Nat.eq_of_beq_eq_true h3)⟩
  case iload_n i =>
    replace hr : (hload 2 i.val) call (fun j => (xmeths j).2) P2 B len x y z go pc ls st ex n t a b = r := hr
    delta hload at hr
    try dsimp only at hr
    have hl : len = 1 := of_decide_eq_true hE3
    subst hl
    rcases xlook_ok hr with h | ⟨u, w, hm, h⟩
    · exact (xg4 h g).elim
    · obtain ⟨h3, h4⟩ := xcf h g
      exact Or.inl ⟨_, _, _, _, _, _, _, _, h4, s_iloadn hx hb hd hm (Nat.eq_of_beq_eq_true h3)⟩
  case lload i =>
    replace hr : (hload 3 i) call (fun j => (xmeths j).2) P2 B len x y z go pc ls st ex n t a b = r := hr
    delta hload at hr
    try dsimp only at hr
    have hl : len = 2 := of_decide_eq_true hE3
    subst hl
    rcases xlook_ok hr with h | ⟨u, w, hm, h⟩
    · exact (xg4 h g).elim
    · obtain ⟨h3, h4⟩ := xcf h g
      exact Or.inl ⟨_, _, _, _, _, _, _, _, h4, s_lload hx hb hd hm (Nat.eq_of_beq_eq_true h3)⟩
  case lload_n i =>
    replace hr : (hload 3 i.val) call (fun j => (xmeths j).2) P2 B len x y z go pc ls st ex n t a b = r := hr
    delta hload at hr
    try dsimp only at hr
    have hl : len = 1 := of_decide_eq_true hE3
    subst hl
    rcases xlook_ok hr with h | ⟨u, w, hm, h⟩
    · exact (xg4 h g).elim
    · obtain ⟨h3, h4⟩ := xcf h g
      exact Or.inl ⟨_, _, _, _, _, _, _, _, h4, s_lloadn hx hb hd hm (Nat.eq_of_beq_eq_true h3)⟩
  case dload i =>
    replace hr : (hload 4 i) call (fun j => (xmeths j).2) P2 B len x y z go pc ls st ex n t a b = r := hr
    delta hload at hr
    try dsimp only at hr
    have hl : len = 2 := of_decide_eq_true hE3
    subst hl
    rcases xlook_ok hr with h | ⟨u, w, hm, h⟩
    · exact (xg4 h g).elim
    · obtain ⟨h3, h4⟩ := xcf h g
      exact Or.inl ⟨_, _, _, _, _, _, _, _, h4, s_dload hx hb hd hm (Nat.eq_of_beq_eq_true h3)⟩
  case dload_n i =>
    replace hr : (hload 4 i.val) call (fun j => (xmeths j).2) P2 B len x y z go pc ls st ex n t a b = r := hr
    delta hload at hr
    try dsimp only at hr
    have hl : len = 1 := of_decide_eq_true hE3
    subst hl
    rcases xlook_ok hr with h | ⟨u, w, hm, h⟩
    · exact (xg4 h g).elim
    · obtain ⟨h3, h4⟩ := xcf h g
      exact Or.inl ⟨_, _, _, _, _, _, _, _, h4, s_dloadn hx hb hd hm (Nat.eq_of_beq_eq_true h3)⟩
  case aload i =>
    replace hr : (hloada i) call (fun j => (xmeths j).2) P2 B len x y z go pc ls st ex n t a b = r := hr
    delta hloada at hr
    try dsimp only at hr
    have hl : len = 2 := of_decide_eq_true hE3
    subst hl
    rcases xlook_ok hr with h | ⟨u, w, hm, h⟩
    · exact (xg4 h g).elim
    · obtain ⟨h3, h4⟩ := xcf h g
      exact Or.inl ⟨_, _, _, _, _, _, _, _, h4, s_aload hx hb hd hm (Nat.le_of_ble_eq_true h3)⟩
  case aload_n i =>
    replace hr : (hloada i.val) call (fun j => (xmeths j).2) P2 B len x y z go pc ls st ex n t a b = r := hr
    delta hloada at hr
    try dsimp only at hr
    have hl : len = 1 := of_decide_eq_true hE3
    subst hl
    rcases xlook_ok hr with h | ⟨u, w, hm, h⟩
    · exact (xg4 h g).elim
    · obtain ⟨h3, h4⟩ := xcf h g
      exact Or.inl ⟨_, _, _, _, _, _, _, _, h4, s_aloadn hx hb hd hm (Nat.le_of_ble_eq_true h3)⟩
  case istore i =>
    replace hr : (hstore 2 i) call (fun j => (xmeths j).2) P2 B len x y z go pc ls st ex n t a b = r := hr
    delta hstore at hr
    try dsimp only at hr
    have hE3 : (decide (len = 2) && decide (i < nL)) = true := hE3
    simp only [Bool.and_eq_true, decide_eq_true_eq] at hE3
    obtain ⟨rfl, h2⟩ := hE3
    obtain ⟨u, w, st1, rfl, h1⟩ := xpop_ok hr g
    obtain ⟨h3, h4⟩ := xcf h1 g
    exact Or.inl ⟨_, _, _, _, _, _, _, _, h4, s_istore hx hb hd h2 (Nat.eq_of_beq_eq_true h3)⟩
  case istore_n i =>
    replace hr : (hstore 2 i.val) call (fun j => (xmeths j).2) P2 B len x y z go pc ls st ex n t a b = r := hr
    delta hstore at hr
    try dsimp only at hr
    have hE3 : (decide (len = 1) && decide (i.val < nL)) = true := hE3
    simp only [Bool.and_eq_true, decide_eq_true_eq] at hE3
    obtain ⟨rfl, h2⟩ := hE3
    obtain ⟨u, w, st1, rfl, h1⟩ := xpop_ok hr g
    obtain ⟨h3, h4⟩ := xcf h1 g
    exact Or.inl ⟨_, _, _, _, _, _, _, _, h4, s_istoren hx hb hd h2 (Nat.eq_of_beq_eq_true h3)⟩
  case lstore i =>
    replace hr : (hstore 3 i) call (fun j => (xmeths j).2) P2 B len x y z go pc ls st ex n t a b = r := hr
    delta hstore at hr
    try dsimp only at hr
    have hE3 : (decide (len = 2) && decide (i + 1 < nL)) = true := hE3
    simp only [Bool.and_eq_true, decide_eq_true_eq] at hE3
    obtain ⟨rfl, h2⟩ := hE3
    obtain ⟨u, w, st1, rfl, h1⟩ := xpop_ok hr g
    obtain ⟨h3, h4⟩ := xcf h1 g
    exact Or.inl ⟨_, _, _, _, _, _, _, _, h4, s_lstore hx hb hd h2 (Nat.eq_of_beq_eq_true h3)⟩
  case lstore_n i =>
    replace hr : (hstore 3 i.val) call (fun j => (xmeths j).2) P2 B len x y z go pc ls st ex n t a b = r := hr
    delta hstore at hr
    try dsimp only at hr
    have hE3 : (decide (len = 1) && decide (i.val + 1 < nL)) = true := hE3
    simp only [Bool.and_eq_true, decide_eq_true_eq] at hE3
    obtain ⟨rfl, h2⟩ := hE3
    obtain ⟨u, w, st1, rfl, h1⟩ := xpop_ok hr g
    obtain ⟨h3, h4⟩ := xcf h1 g
    exact Or.inl ⟨_, _, _, _, _, _, _, _, h4, s_lstoren hx hb hd h2 (Nat.eq_of_beq_eq_true h3)⟩
  case fstore i =>
    replace hr : (hstore 5 i) call (fun j => (xmeths j).2) P2 B len x y z go pc ls st ex n t a b = r := hr
    delta hstore at hr
    try dsimp only at hr
    have hE3 : (decide (len = 2) && decide (i < nL)) = true := hE3
    simp only [Bool.and_eq_true, decide_eq_true_eq] at hE3
    obtain ⟨rfl, h2⟩ := hE3
    obtain ⟨u, w, st1, rfl, h1⟩ := xpop_ok hr g
    obtain ⟨h3, h4⟩ := xcf h1 g
    exact Or.inl ⟨_, _, _, _, _, _, _, _, h4, s_fstore hx hb hd h2 (Nat.eq_of_beq_eq_true h3)⟩
  case fstore_n i =>
    replace hr : (hstore 5 i.val) call (fun j => (xmeths j).2) P2 B len x y z go pc ls st ex n t a b = r := hr
    delta hstore at hr
    try dsimp only at hr
    have hE3 : (decide (len = 1) && decide (i.val < nL)) = true := hE3
    simp only [Bool.and_eq_true, decide_eq_true_eq] at hE3
    obtain ⟨rfl, h2⟩ := hE3
    obtain ⟨u, w, st1, rfl, h1⟩ := xpop_ok hr g
    obtain ⟨h3, h4⟩ := xcf h1 g
    exact Or.inl ⟨_, _, _, _, _, _, _, _, h4, s_fstoren hx hb hd h2 (Nat.eq_of_beq_eq_true h3)⟩
  case dstore i =>
    replace hr : (hstore 4 i) call (fun j => (xmeths j).2) P2 B len x y z go pc ls st ex n t a b = r := hr
    delta hstore at hr
    try dsimp only at hr
    have hE3 : (decide (len = 2) && decide (i + 1 < nL)) = true := hE3
    simp only [Bool.and_eq_true, decide_eq_true_eq] at hE3
    obtain ⟨rfl, h2⟩ := hE3
    obtain ⟨u, w, st1, rfl, h1⟩ := xpop_ok hr g
    obtain ⟨h3, h4⟩ := xcf h1 g
    exact Or.inl ⟨_, _, _, _, _, _, _, _, h4, s_dstore hx hb hd h2 (Nat.eq_of_beq_eq_true h3)⟩
  case dstore_n i =>
    replace hr : (hstore 4 i.val) call (fun j => (xmeths j).2) P2 B len x y z go pc ls st ex n t a b = r := hr
    delta hstore at hr
    try dsimp only at hr
    have hE3 : (decide (len = 1) && decide (i.val + 1 < nL)) = true := hE3
    simp only [Bool.and_eq_true, decide_eq_true_eq] at hE3
    obtain ⟨rfl, h2⟩ := hE3
    obtain ⟨u, w, st1, rfl, h1⟩ := xpop_ok hr g
    obtain ⟨h3, h4⟩ := xcf h1 g
    exact Or.inl ⟨_, _, _, _, _, _, _, _, h4, s_dstoren hx hb hd h2 (Nat.eq_of_beq_eq_true h3)⟩
  case astore i =>
    replace hr : (hstorea i) call (fun j => (xmeths j).2) P2 B len x y z go pc ls st ex n t a b = r := hr
    delta hstorea at hr
    try dsimp only at hr
    have hE3 : (decide (len = 2) && decide (i < nL)) = true := hE3
    simp only [Bool.and_eq_true, decide_eq_true_eq] at hE3
    obtain ⟨rfl, h2⟩ := hE3
    obtain ⟨u, w, st1, rfl, h1⟩ := xpop_ok hr g
    obtain ⟨h3, h4⟩ := xcf h1 g
    exact Or.inl ⟨_, _, _, _, _, _, _, _, h4, s_astore hx hb hd h2 (Nat.le_of_ble_eq_true h3)⟩
  case astore_n i =>
    replace hr : (hstorea i.val) call (fun j => (xmeths j).2) P2 B len x y z go pc ls st ex n t a b = r := hr
    delta hstorea at hr
    try dsimp only at hr
    have hE3 : (decide (len = 1) && decide (i.val < nL)) = true := hE3
    simp only [Bool.and_eq_true, decide_eq_true_eq] at hE3
    obtain ⟨rfl, h2⟩ := hE3
    obtain ⟨u, w, st1, rfl, h1⟩ := xpop_ok hr g
    obtain ⟨h3, h4⟩ := xcf h1 g
    exact Or.inl ⟨_, _, _, _, _, _, _, _, h4, s_astoren hx hb hd h2 (Nat.le_of_ble_eq_true h3)⟩
  case iinc i k =>
    replace hr : (hiinc i k) call (fun j => (xmeths j).2) P2 B len x y z go pc ls st ex n t a b = r := hr
    delta hiinc at hr
    try dsimp only at hr
    have hE3 : (decide (len = 3) && decide (i < nL)) = true := hE3
    simp only [Bool.and_eq_true, decide_eq_true_eq] at hE3
    obtain ⟨rfl, h2⟩ := hE3
    rcases xlook_ok hr with h | ⟨u, w, hm, h⟩
    · exact (xg4 h g).elim
    · obtain ⟨h3, h4⟩ := xcf h g
      have : u = 2 := Nat.eq_of_beq_eq_true h3
      subst this
      exact Or.inl ⟨_, _, _, _, _, _, _, _, h4, s_iinc hx hb hd h2 hm⟩
  case iadd =>
    replace hr : (hbin (fun a b => a + b) (fun _ _ => true)) call (fun j => (xmeths j).2) P2 B len x y z go pc ls st ex n t a b = r := hr
    delta hbin at hr
    try dsimp only at hr
    have hl : len = 1 := of_decide_eq_true hE3
    subst hl
    obtain ⟨u, w, st1, rfl, h1⟩ := xpop_ok hr g
    obtain ⟨v, q, st2, rfl, h2⟩ := xpop_ok h1 g
    obtain ⟨rfl, h3⟩ := xneed_ok h2 g
    obtain ⟨rfl, h4⟩ := xneed_ok h3 g
    obtain ⟨e1, h5⟩ := xcf h4 g
    exact Or.inl ⟨_, _, _, _, _, _, _, _, h5, s_iadd hx hb hd⟩
  case isub =>
    replace hr : (hbin (fun a b => a - b) (fun _ _ => true)) call (fun j => (xmeths j).2) P2 B len x y z go pc ls st ex n t a b = r := hr
    delta hbin at hr
    try dsimp only at hr
    have hl : len = 1 := of_decide_eq_true hE3
    subst hl
    obtain ⟨u, w, st1, rfl, h1⟩ := xpop_ok hr g
    obtain ⟨v, q, st2, rfl, h2⟩ := xpop_ok h1 g
    obtain ⟨rfl, h3⟩ := xneed_ok h2 g
    obtain ⟨rfl, h4⟩ := xneed_ok h3 g
    obtain ⟨e1, h5⟩ := xcf h4 g
    exact Or.inl ⟨_, _, _, _, _, _, _, _, h5, s_isub hx hb hd⟩
  case imul =>
    replace hr : (hbin (fun a b => a * b) (fun _ _ => true)) call (fun j => (xmeths j).2) P2 B len x y z go pc ls st ex n t a b = r := hr
    delta hbin at hr
    try dsimp only at hr
    have hl : len = 1 := of_decide_eq_true hE3
    subst hl
    obtain ⟨u, w, st1, rfl, h1⟩ := xpop_ok hr g
    obtain ⟨v, q, st2, rfl, h2⟩ := xpop_ok h1 g
    obtain ⟨rfl, h3⟩ := xneed_ok h2 g
    obtain ⟨rfl, h4⟩ := xneed_ok h3 g
    obtain ⟨e1, h5⟩ := xcf h4 g
    exact Or.inl ⟨_, _, _, _, _, _, _, _, h5, s_imul hx hb hd⟩
  case idiv =>
    replace hr : (hbin (fun a b => a / b) xin31) call (fun j => (xmeths j).2) P2 B len x y z go pc ls st ex n t a b = r := hr
    delta hbin at hr
    try dsimp only at hr
    have hl : len = 1 := of_decide_eq_true hE3
    subst hl
    obtain ⟨u, w, st1, rfl, h1⟩ := xpop_ok hr g
    obtain ⟨v, q, st2, rfl, h2⟩ := xpop_ok h1 g
    obtain ⟨rfl, h3⟩ := xneed_ok h2 g
    obtain ⟨rfl, h4⟩ := xneed_ok h3 g
    obtain ⟨e1, h5⟩ := xcf h4 g
    exact Or.inl ⟨_, _, _, _, _, _, _, _, h5, s_idiv hx hb hd e1⟩
  case iand =>
    replace hr : (hand) call (fun j => (xmeths j).2) P2 B len x y z go pc ls st ex n t a b = r := hr
    delta hand at hr
    try dsimp only at hr
    have hl : len = 1 := of_decide_eq_true hE3
    subst hl
    obtain ⟨u, w, st1, rfl, h1⟩ := xpop_ok hr g
    obtain ⟨v, q, st2, rfl, h2⟩ := xpop_ok h1 g
    obtain ⟨e1, h3⟩ := xcf h2 g
    obtain ⟨e2, h4⟩ := xcf h3 g
    obtain ⟨e3, h5⟩ := xcf h4 g
    obtain ⟨e4, h6⟩ := xcf h5 g
    obtain rfl : v = 5 := Nat.eq_of_beq_eq_true e1
    obtain rfl : u = 2 := Nat.eq_of_beq_eq_true e3
    obtain rfl := xieq_iff.mp e2
    obtain rfl := xieq_iff.mp e4
    obtain ⟨e5, h7⟩ := xcf h6 g
    exact Or.inl ⟨_, _, _, _, _, _, _, _, h7, s_iand hx hb (hop (Nat.le_of_ble_eq_true e5)) hd⟩
  case i2l =>
    replace hr : (hconv (fun a => cond (Nat.beq a 2) 3 7) (fun a z => cond (Nat.beq a 2) (xin32 z) (Nat.beq a 5))) call (fun j => (xmeths j).2) P2 B len x y z go pc ls st ex n t a b = r := hr
    delta hconv at hr
    try dsimp only at hr
    have hl : len = 1 := of_decide_eq_true hE3
    subst hl
    obtain ⟨v, q, st2, rfl, h1⟩ := xpop_ok hr g
    obtain ⟨e1, h2⟩ := xcf h1 g
    rcases xcc2 e1 with ⟨e2, e3⟩ | ⟨e2, e3⟩
    · obtain rfl : v = 2 := Nat.eq_of_beq_eq_true e2
      exact Or.inl ⟨_, _, _, _, _, _, _, _, h2, s_i2l2 hx hb e3 hd⟩
    · obtain rfl : v = 5 := Nat.eq_of_beq_eq_true e3
      exact Or.inl ⟨_, _, _, _, _, _, _, _, h2, s_i2l5 hx hb hd⟩
  case l2i =>
    replace hr : (hconv (fun _ => 2) (fun a _ => Nat.beq a 3)) call (fun j => (xmeths j).2) P2 B len x y z go pc ls st ex n t a b = r := hr
    delta hconv at hr
    try dsimp only at hr
    have hl : len = 1 := of_decide_eq_true hE3
    subst hl
    obtain ⟨v, q, st2, rfl, h1⟩ := xpop_ok hr g
    obtain ⟨e1, h2⟩ := xcf h1 g
    obtain rfl : v = 3 := Nat.eq_of_beq_eq_true e1
    exact Or.inl ⟨_, _, _, _, _, _, _, _, h2, s_l2i hx hb hd⟩
  case i2c =>
    replace hr : (hconv (fun _ => 6) (fun a _ => Nat.beq a 5)) call (fun j => (xmeths j).2) P2 B len x y z go pc ls st ex n t a b = r := hr
    delta hconv at hr
    try dsimp only at hr
    have hl : len = 1 := of_decide_eq_true hE3
    subst hl
    obtain ⟨v, q, st2, rfl, h1⟩ := xpop_ok hr g
    obtain ⟨e1, h2⟩ := xcf h1 g
    obtain rfl : v = 5 := Nat.eq_of_beq_eq_true e1
    exact Or.inl ⟨_, _, _, _, _, _, _, _, h2, s_i2c hx hb hd⟩
  case i2d =>
    replace hr : (hconv (fun _ => 8) (fun a _ => Nat.beq a 5)) call (fun j => (xmeths j).2) P2 B len x y z go pc ls st ex n t a b = r := hr
    delta hconv at hr
    try dsimp only at hr
    have hl : len = 1 := of_decide_eq_true hE3
    subst hl
    obtain ⟨v, q, st2, rfl, h1⟩ := xpop_ok hr g
    obtain ⟨e1, h2⟩ := xcf h1 g
    obtain rfl : v = 5 := Nat.eq_of_beq_eq_true e1
    exact Or.inl ⟨_, _, _, _, _, _, _, _, h2, s_i2d hx hb hd⟩
  case l2d =>
    replace hr : (hconv (fun _ => 9) (fun a _ => Nat.beq a 7)) call (fun j => (xmeths j).2) P2 B len x y z go pc ls st ex n t a b = r := hr
    delta hconv at hr
    try dsimp only at hr
    have hl : len = 1 := of_decide_eq_true hE3
    subst hl
    obtain ⟨v, q, st2, rfl, h1⟩ := xpop_ok hr g
    obtain ⟨e1, h2⟩ := xcf h1 g
    obtain rfl : v = 7 := Nat.eq_of_beq_eq_true e1
    exact Or.inl ⟨_, _, _, _, _, _, _, _, h2, s_l2d hx hb hd⟩
  case lcmp =>
    replace hr : (hlcmp) call (fun j => (xmeths j).2) P2 B len x y z go pc ls st ex n t a b = r := hr
    delta hlcmp at hr
    try dsimp only at hr
    have hl : len = 1 := of_decide_eq_true hE3
    subst hl
    obtain ⟨u, w, st1, rfl, h1⟩ := xpop_ok hr g
    obtain ⟨v, q, st2, rfl, h2⟩ := xpop_ok h1 g
    obtain ⟨e1, h3⟩ := xcf h2 g
    obtain ⟨e2, h4⟩ := xcf h3 g
    obtain ⟨e3, h5⟩ := xcf h4 g
    obtain ⟨e4, h6⟩ := xcf h5 g
    obtain rfl : v = 3 := Nat.eq_of_beq_eq_true e1
    obtain rfl : u = 3 := Nat.eq_of_beq_eq_true e2
    exact Or.inl ⟨_, _, _, _, _, _, _, _, h6, s_lcmp hx hb e3 e4 hd⟩
  case dup =>
    replace hr : (hdup) call (fun j => (xmeths j).2) P2 B len x y z go pc ls st ex n t a b = r := hr
    delta hdup at hr
    try dsimp only at hr
    have hl : len = 1 := of_decide_eq_true hE3
    subst hl
    obtain ⟨v, q, st2, rfl, h1⟩ := xpop_ok hr g
    obtain ⟨e1, h2⟩ := xct h1 g
    exact Or.inl ⟨_, _, _, _, _, _, _, _, h2, s_dup hx hb e1 hd⟩
  case pop =>
    replace hr : (hpop) call (fun j => (xmeths j).2) P2 B len x y z go pc ls st ex n t a b = r := hr
    delta hpop at hr
    try dsimp only at hr
    have hl : len = 1 := of_decide_eq_true hE3
    subst hl
    obtain ⟨v, q, st2, rfl, h1⟩ := xpop_ok hr g
    obtain ⟨e1, h2⟩ := xct h1 g
    exact Or.inl ⟨_, _, _, _, _, _, _, _, h2, s_pop hx hb e1 hd⟩
  case ifCond k off =>
    replace hr : (hif k) call (fun j => (xmeths j).2) P2 B len x y z go pc ls st ex n t a b = r := hr
    delta hif at hr
    try dsimp only at hr
    have hE3 : (decide (len = 3) && decide ((pc : Int) + off = (x : Int))) = true := hE3
    simp only [Bool.and_eq_true, decide_eq_true_eq] at hE3
    obtain ⟨rfl, ht⟩ := hE3
    obtain ⟨v, q, st2, rfl, h1⟩ := xpop_ok hr g
    obtain ⟨x1, x2, e1, e2, h2⟩ := xcond_ok hB h1 g
    obtain rfl : x2 = 0 := by injection e2.symm
    rcases h2 with ⟨h3, h4⟩ | ⟨h3, h4⟩
    · exact Or.inl ⟨_, _, _, _, _, _, _, _, h4, fun k1 => s_if hx hb ht hd e1 (fun _ => k1) (fun q => absurd h3 q)⟩
    · exact Or.inl ⟨_, _, _, _, _, _, _, _, h4, fun k1 => s_if hx hb ht hd e1 (fun q => absurd q h3) (fun _ => k1)⟩
  case if_icmp k off =>
    replace hr : (hicmp k) call (fun j => (xmeths j).2) P2 B len x y z go pc ls st ex n t a b = r := hr
    delta hicmp at hr
    try dsimp only at hr
    have hE3 : (decide (len = 3) && decide ((pc : Int) + off = (x : Int))) = true := hE3
    simp only [Bool.and_eq_true, decide_eq_true_eq] at hE3
    obtain ⟨rfl, ht⟩ := hE3
    obtain ⟨u, w, st1, rfl, h0⟩ := xpop_ok hr g
    obtain ⟨v, q, st2, rfl, h1⟩ := xpop_ok h0 g
    obtain ⟨x1, x2, e1, e2, h2⟩ := xcond_ok hB h1 g
    rcases h2 with ⟨h3, h4⟩ | ⟨h3, h4⟩
    · exact Or.inl ⟨_, _, _, _, _, _, _, _, h4, fun k1 => s_icmp hx hb ht hd e1 e2 (fun _ => k1) (fun q => absurd h3 q)⟩
    · exact Or.inl ⟨_, _, _, _, _, _, _, _, h4, fun k1 => s_icmp hx hb ht hd e1 e2 (fun q => absurd q h3) (fun _ => k1)⟩
  case goto off =>
    replace hr : (hgoto) call (fun j => (xmeths j).2) P2 B len x y z go pc ls st ex n t a b = r := hr
    delta hgoto at hr
    try dsimp only at hr
    have hE3 : (decide (len = 3) && decide ((pc : Int) + off = (x : Int))) = true := hE3
    simp only [Bool.and_eq_true, decide_eq_true_eq] at hE3
    obtain ⟨rfl, ht⟩ := hE3
    exact Or.inl ⟨_, _, _, _, _, _, _, _, hr, s_goto hx hb ht hd⟩
  case ifnull off =>
    replace hr : (hnull true) call (fun j => (xmeths j).2) P2 B len x y z go pc ls st ex n t a b = r := hr
    delta hnull at hr
    try dsimp only at hr
    have hE3 : (decide (len = 3) && decide ((pc : Int) + off = (x : Int))) = true := hE3
    simp only [Bool.and_eq_true, decide_eq_true_eq] at hE3
    obtain ⟨rfl, ht⟩ := hE3
    obtain ⟨v, q, st2, rfl, h1⟩ := xpop_ok hr g
    rcases xcc h1 with ⟨e1, h2⟩ | ⟨e1, h2⟩
    · obtain rfl : v = 0 := Nat.eq_of_beq_eq_true e1
      exact Or.inl ⟨_, _, _, _, _, _, _, _, h2, s_ifnull0 hx hb ht hd⟩
    · obtain ⟨e2, h3⟩ := xcf h2 g
      obtain rfl : v = 1 := Nat.eq_of_beq_eq_true e2
      exact Or.inl ⟨_, _, _, _, _, _, _, _, h3, s_ifnull1 hx hb hd⟩
  case ifnonnull off =>
    replace hr : (hnull false) call (fun j => (xmeths j).2) P2 B len x y z go pc ls st ex n t a b = r := hr
    delta hnull at hr
    try dsimp only at hr
    have hE3 : (decide (len = 3) && decide ((pc : Int) + off = (x : Int))) = true := hE3
    simp only [Bool.and_eq_true, decide_eq_true_eq] at hE3
    obtain ⟨rfl, ht⟩ := hE3
    obtain ⟨v, q, st2, rfl, h1⟩ := xpop_ok hr g
    rcases xcc h1 with ⟨e1, h2⟩ | ⟨e1, h2⟩
    · obtain rfl : v = 0 := Nat.eq_of_beq_eq_true e1
      exact Or.inl ⟨_, _, _, _, _, _, _, _, h2, s_ifnon0 hx hb hd⟩
    · obtain ⟨e2, h3⟩ := xcf h2 g
      obtain rfl : v = 1 := Nat.eq_of_beq_eq_true e2
      exact Or.inl ⟨_, _, _, _, _, _, _, _, h3, s_ifnon1 hx hb ht hd⟩
  case tableswitch dflt lo hi offs =>
    replace hr : (hswitch dflt lo hi offs.toList) call (fun j => (xmeths j).2) P2 B len x y z go pc ls st ex n t a b = r := hr
    delta hswitch at hr
    try dsimp only at hr
    have hE3 : (decide ((offs.toList.length : Int) = hi - lo + 1) && (decide (0 ≤ (pc : Int) + dflt) && offs.toList.all (fun o => decide (0 ≤ (pc : Int) + o)))) = true := hE3
    simp only [Bool.and_eq_true, decide_eq_true_eq] at hE3
    obtain ⟨hlen, hdf, hall⟩ := hE3
    obtain ⟨v, q, st2, rfl, h1⟩ := xpop_ok hr g
    obtain ⟨e1, h2⟩ := xcf h1 g
    obtain rfl : v = 2 := Nat.eq_of_beq_eq_true e1
    obtain ⟨e2, h3⟩ := xcf h2 g
    rcases xcc h3 with ⟨e3, h4⟩ | ⟨e3, h4⟩
    · exact Or.inl ⟨_, _, _, _, _, _, _, _, h4, s_swOut hx hb e2 (Or.inl (xilt_iff.mp e3)) (xnat_of hdf).symm hd⟩
    · rcases xcc h4 with ⟨e4, h5⟩ | ⟨e4, h5⟩
      · exact Or.inl ⟨_, _, _, _, _, _, _, _, h5, s_swOut hx hb e2 (Or.inr (xilt_iff.mp e4)) (xnat_of hdf).symm hd⟩
      · have g1 := xilt_no e3
        have g2 := xilt_no e4
        have hk : (xnat (q - lo) : Int) = q - lo := xnat_of (by omega)
        have hk2 : (q - lo).toNat = xnat (q - lo) := by omega
        have hlt : xnat (q - lo) < offs.toList.length := by omega
        have ho : offs[(q - lo).toNat]? = some (lget 0 offs.toList (xnat (q - lo))) := by
          rw [hk2, ← Array.getElem?_toList]
          cases hq : offs.toList[xnat (q - lo)]? with
          | none => rw [List.getElem?_eq_none_iff] at hq; omega
          | some o => rw [lget_of hq]
        have hnn : 0 ≤ (pc : Int) + lget 0 offs.toList (xnat (q - lo)) := by
          rw [hk2, ← Array.getElem?_toList] at ho
          exact of_decide_eq_true (List.all_eq_true.mp hall _ (List.mem_of_getElem? ho))
        exact Or.inl ⟨_, _, _, _, _, _, _, _, h5, s_swIn hx hb e2 (by omega) (by omega) ho (xnat_of hnn).symm hd⟩
  case getfield i =>
    replace hr : (hget) call (fun j => (xmeths j).2) P2 B len x y z go pc ls st ex n t a b = r := hr
    delta hget at hr
    try dsimp only at hr
    have hE3 : (decide (len = 3) && (decide (x < 11) && (decide (y < xcN x) && decide ((xcT x y).1 = xcC x)))) = true := hE3
    simp only [Bool.and_eq_true, decide_eq_true_eq] at hE3
    obtain ⟨rfl, hci, hk, href⟩ := hE3
    obtain ⟨q1, q2, q3, q4, q5⟩ := xfacts (ρ := ρ) hci
    obtain ⟨v, q, st2, rfl, h1⟩ := xpop_ok hr g
    obtain ⟨rfl, hz, fs, hc, h2⟩ := xobj_ok h1 g
    have h3 : cond (Nat.beq (lget (99, 0) fs y).1 99) xfail (go (pc + 3) ls (lget (99, 0) fs y :: st2) ex n t a b) = r := h2
    obtain ⟨e1, h4⟩ := xct h3 g
    have hwd := hw _ (show xwfl alt own i x y ∈ xwords own (.getfield i) x y z alt from List.mem_cons_self)
    unfold xwfl at hwd
    by_cases h0 : alt = 0
    · rw [if_pos h0] at hwd
      exact Or.inl ⟨_, _, _, _, _, _, _, _, h4, s_get hx hb hts hown hW q2 q1 hk href (hts _ (xgw_of hwd.1 rfl)) hz hc rfl (Nat.ne_of_beq_eq_false e1) hd⟩
    · rw [if_neg h0] at hwd
      exact Or.inl ⟨_, _, _, _, _, _, _, _, h4, s_getN hx hb hts hown hW q2 q1 hk href (va_Nw.use rfl (hW.2.1 _ hwd.1 rfl)) hz hc rfl (Nat.ne_of_beq_eq_false e1) hd⟩
  case putfield i =>
    replace hr : (hputf) call (fun j => (xmeths j).2) P2 B len x y z go pc ls st ex n t a b = r := hr
    delta hputf at hr
    try dsimp only at hr
    have hE3 : (decide (len = 3) && (decide (x < 11) && (decide (y < xcN x) && (decide ((xcT x y).1 = xcC x) && ((decide ((xcT x y).2.2.2 = false) || (decide (nm = "<init>") && decide ((xcT x y).1 = own))) &&
xfty z (xcF x y)))))) = true := hE3
    simp only [Bool.and_eq_true, Bool.or_eq_true, decide_eq_true_eq] at hE3
    obtain ⟨rfl, hci, hk, href, hfin, hF⟩ := hE3
    obtain ⟨q1, q2, q3, q4, q5⟩ := xfacts (ρ := ρ) hci
    obtain ⟨u, w, st1, rfl, h0⟩ := xpop_ok hr g
    obtain ⟨v, q, st2, rfl, h1⟩ := xpop_ok h0 g
    obtain ⟨rfl, hz, fs, hc, h2⟩ := xobj_ok h1 g
    have h3 : cond (Nat.beq (lget (99, 0) fs y).1 99) xfail (cond (xfit z u w) (go (pc + 3) ls st2 ex n (tset (0, x, lset (u, w) fs y) 10 t (xnat q)) a b) xfail) = r := h2
    obtain ⟨e1, h4⟩ := xct h3 g
    obtain ⟨e2, h5⟩ := xcf h4 g
    have hwd := hw _ (show Cond.fieldLink own i (xcC x) (xcT x y).2.1 (xcT x y).2.2.1 ∈ xwords own (.putfield i) x y z alt from List.mem_cons_self)
    refine Or.inl ⟨_, _, _, _, _, _, _, _, h5, s_put (tyF := xcF x) (ty := z) hx hb hts hown hW q2 q3 q4 q1 hk href (hfin.imp id (fun h => ⟨by rw [hnm]; exact h.1, h.2⟩)) ?_ (hts _ (xgw_of hwd.1 rfl)) hz hc rfl (Nat.ne_of_beq_eq_false e1) e2 hd⟩
    exact xfty_ok z hF
  case new i =>
    replace hr : (hnew) call (fun j => (xmeths j).2) P2 B len x y z go pc ls st ex n t a b = r := hr
    delta hnew at hr
    try dsimp only at hr
    have hE3 : (decide (len = 3) && (decide (z = 1) || (decide (x < 11) && decide (y = xcN x)))) = true := hE3
    simp only [Bool.and_eq_true, Bool.or_eq_true, decide_eq_true_eq] at hE3
    obtain ⟨rfl, hE4⟩ := hE3
    rcases xcc hr with ⟨e1, h1⟩ | ⟨e1, h1⟩
    · obtain ⟨e2, h2⟩ := xcf h1 g
      obtain ⟨e3, h3⟩ := xcf h2 g
      obtain ⟨e4, h4⟩ := xcf h3 g
      exact Or.inr (Or.inr (Or.inl ⟨_, _, h4.symm, hd, ⟨own, hown, hE4' i rfl (Nat.eq_of_beq_eq_true e1)⟩, Nat.le_of_ble_eq_true e2, Nat.le_of_ble_eq_true e3, Nat.le_of_ble_eq_true e4⟩))
    · have hz1 : z ≠ 1 := Nat.ne_of_beq_eq_false e1
      obtain ⟨hci, hy⟩ := hE4.resolve_left hz1
      subst hy
      obtain ⟨q1, q2, q3, q4, q5⟩ := xfacts (ρ := ρ) hci
      obtain ⟨e2, h2⟩ := xcf h1 g
      subst e2
      obtain ⟨e3, h3⟩ := xcf h2 g
      obtain ⟨e4, h4⟩ := xcf h3 g
      obtain ⟨e5, h5⟩ := xcf h4 g
      rw [xforce_eq] at h5
      have hws : xwords own (.new i) x (xcN x) z alt = [.classLink own i (xcC x), .instantiable (xcC x) (xcN x), .initialized (xcC x)] := by
        show (if z = 1 then _ else _) = _
        rw [if_neg hz1]
      rw [hws] at hw
      have w1 := hts _ (xgw_of (hw (.classLink own i (xcC x)) (by simp)).1 rfl)
      have w2 := hts _ (xgw_of (hw (.instantiable (xcC x) (xcN x)) (by simp)).1 rfl)
      have w3 := hts _ (xgw_of (hw (.initialized (xcC x)) (by simp)).1 rfl)
      exact Or.inl ⟨_, _, _, _, _, _, _, _, h5, s_new hx hb hts hown hW q2 q3 q1 q5 w1 w2 w3 (Nat.le_of_ble_eq_true e3) (by rw [hRc]; exact Nat.le_of_ble_eq_true e4) (by rw [hRs]; exact Nat.le_of_ble_eq_true e5) hd⟩
  case newarray at_ =>
    replace hr : (hnewa) call (fun j => (xmeths j).2) P2 B len x y z go pc ls st ex n t a b = r := hr
    delta hnewa at hr
    try dsimp only at hr
    have hE3 : (decide (len = 2) && (decide (x ≤ 1) && decide (newarray.typeOf at_ = xtyF x))) = true := hE3
    simp only [Bool.and_eq_true, decide_eq_true_eq] at hE3
    obtain ⟨rfl, hx4, hty⟩ := hE3
    obtain ⟨v, q, st2, rfl, h0⟩ := xpop_ok hr g
    obtain ⟨rfl, h1⟩ := xneed_ok h0 g
    obtain ⟨e1, h2⟩ := xct h1 g
    obtain ⟨e2, h3⟩ := xcf h2 g
    obtain ⟨e3, h4⟩ := xcf h3 g
    subst e3
    obtain ⟨e4, h5⟩ := xcf h4 g
    obtain ⟨e5, h6⟩ := xcf h5 g
    obtain ⟨e6, h7⟩ := xcf h6 g
    rw [xforce_eq] at h7
    have w1 := hts _ (xgw_of (hw (.arrayClass (newarray.typeOf at_)) List.mem_cons_self).1 rfl)
    exact Or.inl ⟨_, _, _, _, _, _, _, _, h7, s_newa hx hb hW hx4 hty w1 (xilt_no e1) (xilt_iff.mp e2) (Nat.le_of_ble_eq_true e4) (by rw [hRc]; exact Nat.le_of_ble_eq_true e5) (by rw [hRs]; exact Nat.le_of_ble_eq_true e6) hd⟩
  case anewarray i =>
    replace hr : (hnewa) call (fun j => (xmeths j).2) P2 B len x y z go pc ls st ex n t a b = r := hr
    delta hnewa at hr
    try dsimp only at hr
    have hE3 : (decide (len = 3) && (decide (5 ≤ x) && decide (x ≤ 10))) = true := hE3
    simp only [Bool.and_eq_true, decide_eq_true_eq] at hE3
    obtain ⟨rfl, hx5, hx10⟩ := hE3
    obtain ⟨v, q, st2, rfl, h0⟩ := xpop_ok hr g
    obtain ⟨rfl, h1⟩ := xneed_ok h0 g
    obtain ⟨e1, h2⟩ := xct h1 g
    obtain ⟨e2, h3⟩ := xcf h2 g
    obtain ⟨e3, h4⟩ := xcf h3 g
    subst e3
    obtain ⟨e4, h5⟩ := xcf h4 g
    obtain ⟨e5, h6⟩ := xcf h5 g
    obtain ⟨e6, h7⟩ := xcf h6 g
    rw [xforce_eq] at h7
    have w1 := hts _ (xgw_of (hw (.classLink own i (xtyC (x - 5))) List.mem_cons_self).1 rfl)
    exact Or.inl ⟨_, _, _, _, _, _, _, _, h7, s_newq hx hb hown hW hx5 hx10 w1 (xilt_no e1) (xilt_iff.mp e2) (Nat.le_of_ble_eq_true e4) (by rw [hRc]; exact Nat.le_of_ble_eq_true e5) (by rw [hRs]; exact Nat.le_of_ble_eq_true e6) hd⟩
  case arraylength =>
    replace hr : (halen) call (fun j => (xmeths j).2) P2 B len x y z go pc ls st ex n t a b = r := hr
    delta halen at hr
    try dsimp only at hr
    have hl : len = 1 := of_decide_eq_true hE3
    subst hl
    obtain ⟨v, q, st2, rfl, h1⟩ := xpop_ok hr g
    rcases xcc h1 with ⟨e1, h2⟩ | ⟨e1, h2⟩
    · obtain rfl : v = 10 := Nat.eq_of_beq_eq_true e1
      exact Or.inl ⟨_, _, _, _, _, _, _, _, h2, s_slen hx hb (s0 := s) hX hbl hd⟩
    · obtain ⟨rfl, hz, ty, fs, hc, -, h10, h3⟩ := xarr_ok h2 g
      exact Or.inl ⟨_, _, _, _, _, _, _, _, h3, s_alen hx hb hW hz hc h10 hd⟩
  case iaload =>
    replace hr : (hald 0 0) call (fun j => (xmeths j).2) P2 B len x y z go pc ls st ex n t a b = r := hr
    delta hald at hr
    try dsimp only at hr
    have hl : len = 1 := of_decide_eq_true hE3
    subst hl
    obtain ⟨u, w, st1, rfl, h1⟩ := xpop_ok hr g
    obtain ⟨v, q, st2, rfl, h2⟩ := xpop_ok h1 g
    obtain ⟨rfl, h3⟩ := xneed_ok h2 g
    obtain ⟨x0, x1, h4⟩ := xidx_ok h3 g
    rcases xcc h4 with ⟨e1, h5⟩ | ⟨e1, h5⟩
    · obtain rfl : v = 10 := Nat.eq_of_beq_eq_true e1
      obtain ⟨-, h6⟩ := xcf h5 g
      obtain ⟨e3, h7⟩ := xcf h6 g
      have h8 : cond (xieq (xlo B (xnat w)).1 (xlo B (xnat w)).2) (go (pc + 1) ls ((2, (xlo B (xnat w)).1) :: st2) ex n t a b) (go (pc + 1) ls ((5, w) :: st2) ex n t a b) = r := h7
      rcases xcc h8 with ⟨e4, h9⟩ | ⟨e4, h9⟩
      · have hq := xieq_iff.mp e4
        have hq2 := hB (xnat w)
        have hv : xD ρ (2, (xlo B (xnat w)).1) = .int (ρ.2.2 (xnat w)) := by
          show Value.int (Int32.ofInt (xlo B (xnat w)).1) = _
          rw [show (xlo B (xnat w)).1 = (ρ.2.2 (xnat w)).toInt by omega, Int32.ofInt_toInt]
        exact Or.inl ⟨_, _, _, _, _, _, _, _, h9, s_sld hx hb hX hbl x0 x1 (Nat.le_of_ble_eq_true e3) hv hd⟩
      · exact Or.inl ⟨_, _, _, _, _, _, _, _, h9, s_sld hx hb hX hbl x0 x1 (Nat.le_of_ble_eq_true e3) rfl hd⟩
    · obtain ⟨rfl, hz, ty, fs, hc, hlo, hhi, h6⟩ := xarr_ok h5 g
      have h7 : cond (xkd 0 (lget (99, 0) fs (xnat w)).1) (go (pc + 1) ls (lget (99, 0) fs (xnat w) :: st2) ex n t a b) xfail = r := h6
      obtain ⟨e4, h8⟩ := xcf h7 g
      obtain rfl : ty = 0 := by omega
      exact Or.inl ⟨_, _, _, _, _, _, _, _, h8, s_iald hx hb hW hz hc x0 x1 rfl (Nat.eq_of_beq_eq_true e4) hd⟩
  case aaload =>
    replace hr : (hald 5 10) call (fun j => (xmeths j).2) P2 B len x y z go pc ls st ex n t a b = r := hr
    delta hald at hr
    try dsimp only at hr
    have hl : len = 1 := of_decide_eq_true hE3
    subst hl
    obtain ⟨u, w, st1, rfl, h1⟩ := xpop_ok hr g
    obtain ⟨v, q, st2, rfl, h2⟩ := xpop_ok h1 g
    obtain ⟨rfl, h3⟩ := xneed_ok h2 g
    obtain ⟨x0, x1, h4⟩ := xidx_ok h3 g
    rcases xcc h4 with ⟨e1, h5⟩ | ⟨e1, h5⟩
    · obtain ⟨e2, -⟩ := xcf h5 g
      cases e2
    · obtain ⟨rfl, hz, ty, fs, hc, hlo, hhi, h6⟩ := xarr_ok h5 g
      have h7 : cond (xkd 5 (lget (99, 0) fs (xnat w)).1) (go (pc + 1) ls (lget (99, 0) fs (xnat w) :: st2) ex n t a b) xfail = r := h6
      obtain ⟨e4, h8⟩ := xcf h7 g
      exact Or.inl ⟨_, _, _, _, _, _, _, _, h8, s_aald hx hb hW hlo hhi hz hc x0 x1 rfl (Nat.le_of_ble_eq_true e4) hd⟩
  case iastore =>
    replace hr : (hast 0 0) call (fun j => (xmeths j).2) P2 B len x y z go pc ls st ex n t a b = r := hr
    delta hast at hr
    try dsimp only at hr
    have hl : len = 1 := of_decide_eq_true hE3
    subst hl
    obtain ⟨u, w, st1, rfl, h1⟩ := xpop_ok hr g
    obtain ⟨v, i, st2, rfl, h2⟩ := xpop_ok h1 g
    obtain ⟨o, q, st3, rfl, h3⟩ := xpop_ok h2 g
    obtain ⟨rfl, h4⟩ := xneed_ok h3 g
    obtain ⟨x0, x1, h5⟩ := xidx_ok h4 g
    obtain ⟨rfl, hz, ty, fs, hc, hlo, hhi, h6⟩ := xarr_ok h5 g
    have h7 := xct (show cond (Nat.beq (lget (99, 0) fs (xnat i)).1 99) xfail _ = r from h6) g
    obtain ⟨e4, h8⟩ := h7
    obtain ⟨e5, h9⟩ := xcf h8 g
    obtain rfl : ty = 0 := by omega
    exact Or.inl ⟨_, _, _, _, _, _, _, _, h9, s_iast hx hb hW hz hc x0 x1 rfl (Nat.ne_of_beq_eq_false e4) (Nat.eq_of_beq_eq_true e5) hd⟩
  case aastore =>
    replace hr : (hast 5 10) call (fun j => (xmeths j).2) P2 B len x y z go pc ls st ex n t a b = r := hr
    delta hast at hr
    try dsimp only at hr
    have hl : len = 1 := of_decide_eq_true hE3
    subst hl
    obtain ⟨u, w, st1, rfl, h1⟩ := xpop_ok hr g
    obtain ⟨v, i, st2, rfl, h2⟩ := xpop_ok h1 g
    obtain ⟨o, q, st3, rfl, h3⟩ := xpop_ok h2 g
    obtain ⟨rfl, h4⟩ := xneed_ok h3 g
    obtain ⟨x0, x1, h5⟩ := xidx_ok h4 g
    obtain ⟨rfl, hz, ty, fs, hc, hlo, hhi, h6⟩ := xarr_ok h5 g
    have h7 := xct (show cond (Nat.beq (lget (99, 0) fs (xnat i)).1 99) xfail _ = r from h6) g
    obtain ⟨e4, h8⟩ := h7
    obtain ⟨e5, h9⟩ := xcf h8 g
    obtain ⟨rfl, hy, gs, hc2, h10⟩ := xobj_ok (show xobj n t u w (xelem ty) _ = r from h9) g
    have hel : xelem ty < 11 ∧ xcC (xelem ty) = xtyC (ty - 5) := by
      obtain rfl | rfl | rfl | rfl | rfl | rfl : ty = 5 ∨ ty = 6 ∨ ty = 7 ∨ ty = 8 ∨ ty = 9 ∨ ty = 10 := by omega
      all_goals exact ⟨by decide, rfl⟩
    exact Or.inl ⟨_, _, _, _, _, _, _, _, h10, s_aast hx hb hW hlo hhi (xfacts (ρ := ρ) hel.1).1 hel.2 hz hc x0 x1 rfl (Nat.ne_of_beq_eq_false e4) hy hc2 hd⟩
  case invokestatic i =>
    replace hr : (hcalls) call (fun j => (xmeths j).2) P2 B len x y z go pc ls st ex n t a b = r := hr
    delta hcalls at hr
    try dsimp only at hr
    have hE3 : (decide (len = 3) && (decide (x < 131) && (decide (alt = 0) || decide (xHH x = [])))) = true := hE3
    simp only [Bool.and_eq_true, Bool.or_eq_true, decide_eq_true_eq] at hE3
    obtain ⟨rfl, hx157, hal⟩ := hE3
    obtain ⟨as, st', rfl, hn, h1⟩ := xcallx_ok (P := P2) (P9 := P2) hr g
    obtain ⟨hsum, hca, hcb, h2⟩ := xroom_ok h1 g
    exact x_callback C hcat hx157 h2 g hca hcb (fun r' hM {H locs lsA} hR hL => x_runS C hx157 hal hw hM hn hsum (by rw [hRc]; exact hca) (by rw [hRs]; exact hcb) hd hR hL)
  case invokevirtual i =>
    replace hr : (hcallv) call (fun j => (xmeths j).2) P2 B len x y z go pc ls st ex n t a b = r := hr
    have hE3 : (decide (len = 3) && (decide (x < 131) && (decide (y = 0) && (decide (z < 11) && (decide (xcC z = (xY x).cls) && decide (xHH x = [])))))) = true := hE3
    simp only [Bool.and_eq_true, decide_eq_true_eq] at hE3
    obtain ⟨rfl, hx157, rfl, hz11, hcls, hh⟩ := hE3
    obtain ⟨as, st', rfl, hn, h1⟩ := xcallx_ok (P := P2) (P9 := P2) hr g
    obtain ⟨v, q, st2, rfl, h2⟩ := xpop_ok h1 g
    obtain ⟨hsum, hca, hcb, h3⟩ := xroom_ok h2 g
    obtain ⟨rfl, hz, fs, hc, h4⟩ := xobj_ok (show xobj n t v q z _ = r from h3) g
    exact x_callback C hcat hx157 h4 g hca hcb (fun r' hM {H locs lsA} hR hL => x_runV C hx157 hz11 hcls hh hw hz hc hM hn hsum (by rw [hRc]; exact hca) (by rw [hRs]; exact hcb) hd hR hL)
  case invokespecial i =>
    replace hr : (hspec) call (fun j => (xmeths j).2) P2 B len x y z go pc ls st ex n t a b = r := hr
    have hE3 : (decide (len = 3) && (decide (y = 9) || (decide (x < 131) && (decide (y = 1) && (decide ((xY x).name = "<init>") && (decide (xRt x = none) && decide (xHH x = []))))))) = true := hE3
    simp only [Bool.and_eq_true, Bool.or_eq_true, decide_eq_true_eq] at hE3
    obtain ⟨rfl, hE4⟩ := hE3
    rcases xcc hr with ⟨e1, h1⟩ | ⟨e1, h1⟩
    · obtain rfl : y = 9 := Nat.eq_of_beq_eq_true e1
      obtain ⟨v, q, st2, rfl, h2⟩ := xpop_ok h1 g
      obtain ⟨e2, h3⟩ := xcf h2 g
      obtain rfl : v = 1 := Nat.eq_of_beq_eq_true e2
      obtain ⟨e3, h4⟩ := xcf h3 g
      have hws : xwords own (.invokespecial i) x 9 z alt = [.methodLink own i objectInit, .instanceMethod objectInit, .code objectInit ⟨#[0xb1]⟩ 1 none] := rfl
      rw [hws] at hw
      have w1 := hts _ (xgw_of (hw (.methodLink own i objectInit) (by simp)).1 rfl)
      have w2 := hts _ (xgw_of (hw (.instanceMethod objectInit) (by simp)).1 rfl)
      have w3 := hts _ (xgw_of (hw (.code objectInit ⟨#[0xb1]⟩ 1 none) (by simp)).1 rfl)
      exact Or.inl ⟨_, _, _, _, _, _, _, _, h4, s_obj hx hb hown hml w1 w2 w3 (by omega) (by omega) (Nat.le_of_ble_eq_true e3) hd⟩
    · have hy9 : y ≠ 9 := Nat.ne_of_beq_eq_false e1
      obtain ⟨hx157, rfl, hnm1, hrt, hh⟩ := hE4.resolve_left hy9
      have hws : xwords own (.invokespecial i) x 1 z alt = [xwml alt own i x, .instanceMethod (xY x), .initialized (xY x).cls] := rfl
      rw [hws] at hw
      obtain ⟨as, st', rfl, hn, h2⟩ := xcallx_ok (P := P2) (P9 := P2) h1 g
      obtain ⟨v, q, st2, rfl, h3⟩ := xpop_ok h2 g
      obtain ⟨hsum, hca, hcb, h4⟩ := xroom_ok h3 g
      obtain ⟨e2, h5⟩ := xcf (show cond (Nat.beq v 1) _ xfail = r from h4) g
      obtain rfl : v = 1 := Nat.eq_of_beq_eq_true e2
      exact x_callback C hcat hx157 h5 g hca hcb (fun r' hM {H locs lsA} hR hL => x_runI C hx157 hnm1 hrt hh hw hM hn hsum (by rw [hRc]; exact hca) (by rw [hRs]; exact hcb) hd hR hL)
  case ireturn =>
    replace hr : (hret 1) call (fun j => (xmeths j).2) P2 B len x y z go pc ls st ex n t a b = r := hr
    delta hret at hr
    try dsimp only at hr
    have hl : len = 1 := of_decide_eq_true hE3
    subst hl
    obtain ⟨e1, h1⟩ := xcf hr g
    obtain ⟨e2, h2⟩ := xcf h1 g
    exact Or.inr (Or.inl ⟨_, _, h2.symm, by simp [xisr], hd, Nat.le_of_ble_eq_true e1, Nat.le_of_ble_eq_true e2⟩)
  case lreturn =>
    replace hr : (hret 4) call (fun j => (xmeths j).2) P2 B len x y z go pc ls st ex n t a b = r := hr
    delta hret at hr
    try dsimp only at hr
    have hl : len = 1 := of_decide_eq_true hE3
    subst hl
    obtain ⟨e1, h1⟩ := xcf hr g
    obtain ⟨e2, h2⟩ := xcf h1 g
    exact Or.inr (Or.inl ⟨_, _, h2.symm, by simp [xisr], hd, Nat.le_of_ble_eq_true e1, Nat.le_of_ble_eq_true e2⟩)
  case dreturn =>
    replace hr : (hret 5) call (fun j => (xmeths j).2) P2 B len x y z go pc ls st ex n t a b = r := hr
    delta hret at hr
    try dsimp only at hr
    have hl : len = 1 := of_decide_eq_true hE3
    subst hl
    obtain ⟨e1, h1⟩ := xcf hr g
    obtain ⟨e2, h2⟩ := xcf h1 g
    exact Or.inr (Or.inl ⟨_, _, h2.symm, by simp [xisr], hd, Nat.le_of_ble_eq_true e1, Nat.le_of_ble_eq_true e2⟩)
  case freturn =>
    replace hr : (hret 7) call (fun j => (xmeths j).2) P2 B len x y z go pc ls st ex n t a b = r := hr
    delta hret at hr
    try dsimp only at hr
    have hl : len = 1 := of_decide_eq_true hE3
    subst hl
    obtain ⟨e1, h1⟩ := xcf hr g
    obtain ⟨e2, h2⟩ := xcf h1 g
    exact Or.inr (Or.inl ⟨_, _, h2.symm, by simp [xisr], hd, Nat.le_of_ble_eq_true e1, Nat.le_of_ble_eq_true e2⟩)
  case areturn =>
    replace hr : (hret 6) call (fun j => (xmeths j).2) P2 B len x y z go pc ls st ex n t a b = r := hr
    delta hret at hr
    try dsimp only at hr
    have hl : len = 1 := of_decide_eq_true hE3
    subst hl
    obtain ⟨e1, h1⟩ := xcf hr g
    obtain ⟨e2, h2⟩ := xcf h1 g
    exact Or.inr (Or.inl ⟨_, _, h2.symm, by simp [xisr], hd, Nat.le_of_ble_eq_true e1, Nat.le_of_ble_eq_true e2⟩)
  case return_ =>
    replace hr : (hret 0) call (fun j => (xmeths j).2) P2 B len x y z go pc ls st ex n t a b = r := hr
    delta hret at hr
    try dsimp only at hr
    have hl : len = 1 := of_decide_eq_true hE3
    subst hl
    obtain ⟨e1, h1⟩ := xcf hr g
    obtain ⟨e2, h2⟩ := xcf h1 g
    exact Or.inr (Or.inl ⟨_, _, h2.symm, by simp [xisr], hd, Nat.le_of_ble_eq_true e1, Nat.le_of_ble_eq_true e2⟩)
  all_goals exact (xg4 hr g).elim
end XHO
