/-! THE RUN of a method, and what it says of the method -/
def rpc (r : xO) : Nat := r.2.2.2.1
def rls (r : xO) : xL := r.2.2.2.2.1
def ra (r : xO) : Nat := r.2.2.2.2.2.2.2.2.2.1
def rb (r : xO) : Nat := r.2.2.2.2.2.2.2.2.2.2
theorem xonT {w : Cond} (h : xnest w = true) : w.onTables = true := by cases w <;> first | rfl | (exfalso; revert h; simp [xnest])
section XLP
variable {p : Program} {l : Launch} {e : Env} {R : Room} {s : State} {m : MethodId} {args : Array Value} {below : List Frame} {meth : Method} {c : Code} {Q : State → Prop} {D : va_G} {ca : Nat → ClassId} {ρ : xE} {H0 : Heap} {nL : Nat}
variable {cc : ByteArray} {pc : Nat} {ls : xL} {st : List xV} {ex : Bool} {n : Nat} {t : xT} {a b : Nat}
/-- what is owed at the ends -/
def xEnd (p : Program) (l : Launch) (e : Env) (R : Room) (s : State) (m : MethodId) (args : Array Value) (below : List Frame) (meth : Method) (c : Code) (Q : State → Prop) (D : va_G) (ca : Nat → ClassId) (ρ : xE) (H0 : Heap) (nL : Nat) (cc : ByteArray) (P2 : xQ) (r : xO) : Prop :=
  (r.1 = 1 → (∃ ins, xisr ins r.2.1 ∧ decode cc (rpc r) = .ok (ins, 1)) → ra r ≤ P2.2.2.2.1 → rb r ≤ P2.2.2.2.2 → XG p l e R s m args below meth c Q D ca ρ H0 nL (rpc r) (rls r) (rst r) (rex r) (rn r) (rt r) (ra r) (rb r)) ∧
  (r.1 = 2 → ∀ i ow, decode cc (rpc r) = .ok (.new i, 3) → s.vm.findClass ow = some m.cls → xthr ow cc (rpc r) i r.2.1 = true → xsum (rst r) ≤ 8 → ra r + 1 ≤ P2.2.2.2.1 → rb r + 6 ≤ P2.2.2.2.2 → XG p l e R s m args below meth c Q D ca ρ H0 nL (rpc r) (rls r) (rst r) (rex r) (rn r) (rt r) (ra r) (rb r)) ∧
  (r.1 = 3 → P2.1 = [] → ra r ≤ P2.2.2.2.1 → rb r ≤ P2.2.2.2.2 → XX p l e R s m args below meth c Q D ca ρ H0 nL r.2.1 (rpc r) (rls r) (rst r) (rn r) (rt r) (ra r) (rb r))
theorem xloop_ok {own nm : String} {d : Nat} {P : xP} {B : xB} {call : xA} (C : xCtx p l R s m args meth c D ca ρ H0 nL cc own nm d P.2 B call) (hcat : P.2.1 ≠ [] → xCatch p l e R s m args below meth c Q D ca ρ H0 nL P.2) (htab : xTab own nm nL cc P) {r : xO} (g : r.1 ≤ 3) (hend : xEnd p l e R s m args below meth c Q D ca ρ H0 nL cc P.2 r) :
    ∀ (k : Nat) {pc : Nat} {ls : xL} {st : List xV} {ex : Bool} {n : Nat} {t : xT} {a b : Nat}, xloop call (fun j => (xmeths j).2) P B k pc ls st ex n t a b = r → XG p l e R s m args below meth c Q D ca ρ H0 nL pc ls st ex n t a b := by
  intro k
  induction k with
  | zero => intro pc ls st ex n t a b h; exact (xg4 h g).elim
  | succ k ih =>
    intro pc ls st ex n t a b h
    have h1 : xforce pc (fun pc => xdo (tget xno P.1.1.1 P.1.2 pc) (fun h q len x y z => cond (Nat.beq pc q) (h call (fun j => (xmeths j).2) P.2 B len x y z (xloop call (fun j => (xmeths j).2) P B k) pc ls st ex n t a b) xfail)) = r := h
    rw [xforce_eq] at h1
    have h2 : (fun e : xEn => cond (Nat.beq pc e.2.1) (e.1 call (fun j => (xmeths j).2) P.2 B e.2.2.1 e.2.2.2.1 e.2.2.2.2.1 e.2.2.2.2.2 (xloop call (fun j => (xmeths j).2) P B k) pc ls st ex n t a b) xfail) (tget xno P.1.1.1 P.1.2 pc) = r := h1
    have hm := tget_mem xno P.1.1.1 P.1.2 pc
    revert h2 hm
    generalize tget xno P.1.1.1 P.1.2 pc = e9
    intro h2 hm
    obtain ⟨e1, h3⟩ := xcf h2 g
    have hq : pc = e9.2.1 := Nat.eq_of_beq_eq_true e1
    have hno : e9 ≠ xno := by
      intro q
      subst q
      exact xg4 (show xfail = r from h3) g
    rcases hm with hm | hm
    · exact absurd hm hno
    rcases htab e9 hm with h4 | ⟨ins, alt, h4, h5⟩
    · exact absurd h4 hno
    rw [h4] at h3
    have h5' : xEok own nm nL cc (pc, e9.2.2.1, e9.2.2.2.1, e9.2.2.2.2.1, e9.2.2.2.2.2) ins alt := by rw [hq]; exact h5
    rcases xhand_ok C hcat h5' h3 g with ⟨pc', ls', st', ex', n', t', a', b', h6, h7⟩ | ht
    · exact h7 (ih h6)
    · rcases ht with ⟨ins', k', h8, h9, h10, h11, h12⟩ | ⟨E, i, h8, h9, ⟨ow, h10, h11⟩, h12, h13, h14⟩ | ⟨E, st', n', t', a', b', h8, h9, h10, h11, h12⟩
      · subst h8
        exact hend.1 rfl ⟨ins', h9, h10⟩ h11 h12
      · subst h8
        exact hend.2.1 rfl i ow h9 h10 h11 h12 h13 h14
      · subst h8
        exact h12 (hend.2.2 rfl h9 h10 h11)
theorem W_size {H : Heap} {locs : List Loc} {g : JFrame} (k : s.heap.size ≤ H.size → W p l e R s m args below meth c H locs a b Q g) : W p l e R s m args below meth c H locs a b Q g := fun T hT X => k (by rw [← hT]; exact (vx_frame (U := T) X.same).1) T hT X
/-- a throw of the method's own -/
theorem x_throw {own nm : String} {d : Nat} {P2 : xQ} {B : xB} {call : xA} (C : xCtx p l R s m args meth c D ca ρ H0 nL cc own nm d P2 B call) (hl : l.stackTraces = false) (hlocks : meth.locks = false) (hnt : ∀ x ∈ c.exceptionTable.toList, False) {mc ms : Nat} {Qc : Array Value → State → Outcome → State → Prop} {XC : String → State → State → Prop}
    {E i : Nat} {ow : String} (hd : decode cc pc = .ok (.new i, 3)) (how : s.vm.findClass ow = some m.cls) (hth : xthr ow cc pc i E = true) (hsum : xsum st ≤ 8) (ha : a + 1 ≤ mc) (hb2 : b + 6 ≤ ms) (hRc : R.cells = mc) (hRs : R.slots = ms)
    (hXC : ∀ (H H1 : Heap) (locs : List Loc) (u : State), u.heap = H1 → xRel D ca ρ H0 ex n t H locs → H.size ≤ H1.size → (∀ q : Nat, q < H.size → H1[q]? = H[q]?) → XC (xexN E) s u) {H : Heap} {locs : List Loc} {lsA : Array Slot} (hR : xRel D ca ρ H0 ex n t H locs) (hL : lv_has lsA nL (xM ρ ls)) :
    W p l e R s m args below meth c H locs a b (vx_MQ below Qc XC args s mc ms (fun q => ρ.1 ≤ q)) (F0 m pc lsA (st.map (xD ρ))) := by
  refine W_size fun hsz => ?_
  obtain ⟨⟨hx, hb, hml, hown, hnm⟩, hts, ⟨hW, hX, hbl, hs0⟩, -, ⟨hRf, hRl, -, -⟩, -⟩ := C
  obtain ⟨q, hq, hth⟩ := List.any_eq_true.mp hth
  simp only [Bool.and_eq_true, Bool.or_eq_true, decide_eq_true_eq] at hth
  obtain ⟨e1, e2, e3, d3, h4⟩ := hth
  obtain ⟨⟨f1, f1s, f2⟩, ⟨r0, r1, r2, r5⟩, ⟨f3, f4⟩, f5, f6⟩ := xsites_ok q hq
  rw [e1, e2, e3] at f3
  rw [e1] at f5
  rw [e1, e3] at f6
  rw [e3] at f1 f4 r0 r1 r2 r5
  obtain ⟨sa, hstr⟩ := hW.2.2.2.1 _ _ _ f5
  have hat : ∀ w ∈ x_atSX ow q.2.2.2.1 (xexN E) xsup (xrix E) (xrx E) xnm, w.before args s = true := fun w hw => by
    obtain ⟨g1, g2 | g2⟩ := f6 w hw
    · exact hts w (xgw_of g1 g2)
    · exact va_Nw.use (xonT g2) (hW.2.1 w g1 g2)
  have hgd : ∀ w ∈ Cond.classLink ow i (xexN E) :: Cond.initialized (xexN E) :: x_atSX ow q.2.2.2.1 (xexN E) xsup (xrix E) (xrx E) xnm, vx_ot w = true := fun w hw => by
    rcases List.mem_cons.mp hw with rfl | hw
    · rfl
    rcases List.mem_cons.mp hw with rfl | hw
    · rfl
    obtain ⟨g1, g2 | g2⟩ := f6 w hw
    · unfold vx_ot; rw [g2, Bool.or_true]
    · unfold vx_ot; rw [xonT g2]; rfl
  have hS : va_S (fun q => ρ.1 ≤ q) s.heap H locs := ⟨hsz, fun q h1 h2 => by
    have hlt : q < ρ.1 := Nat.not_le.mp h2
    rw [hs0 q hlt]
    have hB : ρ.1 = H0.size := hR.2.2.2.2
    exact hR.2.2.2.1.2.1 q (by omega) h2, hR.2.2.2.1.2.2⟩
  have hrl : ((st.map (xD ρ)).map fun v => v.category).sum + (13 * (xnm.length + 2) + 43) ≤ R.locals := by
    rw [xsum_eq]
    show xsum st + (13 * (1 + 2) + 43) ≤ _
    omega
  have hrf : xnm.length + 4 < R.frames := by show 1 + 4 < _; omega
  have hx9 : ∀ t9 : State, s.vm.Alike t9.vm → H.size ≤ t9.heap.size → (∀ q : Nat, q < H.size → t9.heap[q]? = H[q]?) → XC (xexN E) s t9 := fun t9 _ k1 k2 => hXC H t9.heap locs t9 rfl hR k1 k2
  rcases h4 with ⟨-, d4, d6, d9⟩ | ⟨-, d4, d6, d9⟩
  · exact x_throwX (A := fun q => ρ.1 ≤ q) (wd := 2) hx hb hl r0 r1 r2 r5 how f1 f1s f2 (hts _ f3) (hts _ f4) hstr hat hgd hW.2.2.2.2.2.1 hW.2.2.2.2.2.2 hS (by rw [hL.1]; exact hml.symm) hd d3 (Or.inl ⟨rfl, d4⟩) d6 d9 (fun x hx => (hnt x hx).elim) hrf hrl (by omega) (by omega) hlocks hx9 hR.2.2.2.1.2.2 ha hb2
  · exact x_throwX (A := fun q => ρ.1 ≤ q) (wd := 3) hx hb hl r0 r1 r2 r5 how f1 f1s f2 (hts _ f3) (hts _ f4) hstr hat hgd hW.2.2.2.2.2.1 hW.2.2.2.2.2.2 hS (by rw [hL.1]; exact hml.symm) hd d3 (Or.inr ⟨rfl, d4⟩) d6 d9 (fun x hx => (hnt x hx).elim) hrf hrl (by omega) (by omega) hlocks hx9 hR.2.2.2.1.2.2 ha hb2
end XLP
