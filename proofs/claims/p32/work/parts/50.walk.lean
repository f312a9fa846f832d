/-! THE LAW'S WALK: cases of the script's ints, runs from a picture made plain -/
noncomputable def xto (stop : Nat) (call : xA) (P : xP) (B : xB) (n : Nat) : xG := Nat.rec (fun _ _ _ _ _ _ _ _ => xfail) (fun _ ih pc ls st ex n t c d => cond (Nat.beq pc stop) (0, 0, 0, pc, ls, st, ex, n, t, c, d) (xstep call (fun j => (xmeths j).2) P B ih pc ls st ex n t c d)) n
noncomputable def xfI {α : Type} (z : Int) (f : Int → α) : α := Int.rec (fun m => xforce m (fun m => f (Int.ofNat m))) (fun m => xforce m (fun m => f (Int.negSucc m))) z
noncomputable def xfL {α : Type} (l : List xV) : (List xV → α) → α := List.rec (fun k => k []) (fun v _ ih k => Prod.rec (fun a z => xforce a (fun a => xfI z (fun z => ih (fun t => k ((a, z) :: t))))) v) l
noncomputable def xfC {α : Type} (c : xC) (k : xC → α) : α := Prod.rec (fun a c => Prod.rec (fun b l => xforce a (fun a => xforce b (fun b => xfL l (fun l => k (a, b, l))))) c) c
noncomputable def xfT {α : Type} (t : xT) : (xT → α) → α := Lean.RArray.rec (fun c k => xfC c (fun c => k (.leaf c))) (fun p _ _ ihl ihr k => ihl (fun l => ihr (fun r => k (.branch p l r)))) t
noncomputable def xfM {α : Type} (l : xL) : (xL → α) → α := List.rec (fun k => k []) (fun v _ ih k => Prod.rec (fun i v => Prod.rec (fun a z => xforce i (fun i => xforce a (fun a => xfI z (fun z => ih (fun t => k ((i, a, z) :: t)))))) v) v) l
noncomputable def xfS {α : Type} (r : xO) (k : Nat → xL → List xV → Bool → Nat → xT → Nat → Nat → α) : α :=
  Prod.rec (fun _ r => Prod.rec (fun _ r => Prod.rec (fun _ s => Prod.rec (fun pc s => Prod.rec (fun ls s => Prod.rec (fun st s => Prod.rec (fun ex s => Prod.rec (fun n s => Prod.rec (fun t s => Prod.rec (fun c d =>
    xforce pc (fun pc => xfM ls (fun ls => xfL st (fun st => xforce n (fun n => xforce c (fun c => xforce d (fun d => xfT t (fun t => cond ex (k pc ls st true n t c d) (k pc ls st false n t c d))))))))) s) s) s) s) s) s) s) r) r) r
theorem xfI_eq {α : Type} (z : Int) (f : Int → α) : xfI z f = f z := by
  cases z with
  | ofNat m => exact xforce_eq m (fun m => f (Int.ofNat m))
  | negSucc m => exact xforce_eq m (fun m => f (Int.negSucc m))
theorem xfL_eq {α : Type} : ∀ (l : List xV) (k : List xV → α), xfL l k = k l
  | [], _ => rfl
  | (a, z) :: l, k => by
    show xforce a (fun a => xfI z (fun z => xfL l (fun t => k ((a, z) :: t)))) = _
    rw [xforce_eq, xfI_eq, xfL_eq l]
theorem xfC_eq {α : Type} (c : xC) (k : xC → α) : xfC c k = k c := by
  obtain ⟨a, b, l⟩ := c
  show xforce a (fun a => xforce b (fun b => xfL l (fun l => k (a, b, l)))) = _
  rw [xforce_eq, xforce_eq, xfL_eq]
theorem xfT_eq {α : Type} : ∀ (t : xT) (k : xT → α), xfT t k = k t
  | .leaf c, k => by
    show xfC c (fun c => k (.leaf c)) = _
    rw [xfC_eq]
  | .branch p l r, k => by
    show xfT l (fun l => xfT r (fun r => k (.branch p l r))) = _
    rw [xfT_eq l, xfT_eq r]
theorem xfM_eq {α : Type} : ∀ (l : xL) (k : xL → α), xfM l k = k l
  | [], _ => rfl
  | (i, a, z) :: l, k => by
    show xforce i (fun i => xforce a (fun a => xfI z (fun z => xfM l (fun t => k ((i, a, z) :: t))))) = _
    rw [xforce_eq, xforce_eq, xfI_eq, xfM_eq l]
theorem xfS_eq {α : Type} (r : xO) (k : Nat → xL → List xV → Bool → Nat → xT → Nat → Nat → α) : xfS r k = k (rpc r) (rls r) (rst r) (rex r) (rn r) (rt r) (ra r) (rb r) := by
  obtain ⟨k1, v, y, pc, ls, st, ex, n, t, c, d⟩ := r
  show xforce pc (fun pc => xfM ls (fun ls => xfL st (fun st => xforce n (fun n => xforce c (fun c => xforce d (fun d => xfT t (fun t => cond ex (k pc ls st true n t c d) (k pc ls st false n t c d)))))))) = _
  rw [xforce_eq, xfM_eq, xfL_eq, xforce_eq, xforce_eq, xforce_eq, xfT_eq]
  cases ex <;> rfl
section XWK
variable {p : Program} {l : Launch} {e : Env} {R : Room} {s : State} {m : MethodId} {args : Array Value} {below : List Frame} {meth : Method} {c : Code} {Q : State → Prop} {D : va_G} {ca : Nat → ClassId} {ρ : xE} {H0 : Heap} {nL : Nat}
variable {cc : ByteArray} {pc : Nat} {ls : xL} {st : List xV} {ex : Bool} {n : Nat} {t : xT} {a b : Nat}
theorem xto_ok {own nm : String} {d : Nat} {P : xP} {B : xB} {call : xA} (C : xCtx p l R s m args meth c D ca ρ H0 nL cc own nm d P.2 B call) (hcat : P.2.1 ≠ [] → xCatch p l e R s m args below meth c Q D ca ρ H0 nL P.2) (htab : xTab own nm nL cc P) {stop : Nat} {r : xO} (g : r.1 = 0)
    (hend : XG p l e R s m args below meth c Q D ca ρ H0 nL (rpc r) (rls r) (rst r) (rex r) (rn r) (rt r) (ra r) (rb r)) :
    ∀ (k : Nat) {pc : Nat} {ls : xL} {st : List xV} {ex : Bool} {n : Nat} {t : xT} {a b : Nat}, xto stop call P B k pc ls st ex n t a b = r → XG p l e R s m args below meth c Q D ca ρ H0 nL pc ls st ex n t a b := by
  have g3 : r.1 ≤ 3 := by omega
  intro k
  induction k with
  | zero => intro pc ls st ex n t a b h; exact (xg4 h g3).elim
  | succ k ih =>
    intro pc ls st ex n t a b h
    have h0 : cond (Nat.beq pc stop) (0, 0, 0, pc, ls, st, ex, n, t, a, b) (xforce pc (fun pc => xdo (tget xno P.1.1.1 P.1.2 pc) (fun h q len x y z => cond (Nat.beq pc q) (h call (fun j => (xmeths j).2) P.2 B len x y z (xto stop call P B k) pc ls st ex n t a b) xfail))) = r := h
    rcases xcc h0 with ⟨-, h1⟩ | ⟨-, h1⟩
    · subst h1
      exact hend
    · rw [xforce_eq] at h1
      have h2 : (fun e : xEn => cond (Nat.beq pc e.2.1) (e.1 call (fun j => (xmeths j).2) P.2 B e.2.2.1 e.2.2.2.1 e.2.2.2.2.1 e.2.2.2.2.2 (xto stop call P B k) pc ls st ex n t a b) xfail) (tget xno P.1.1.1 P.1.2 pc) = r := h1
      have hm := tget_mem xno P.1.1.1 P.1.2 pc
      revert h2 hm
      generalize tget xno P.1.1.1 P.1.2 pc = e9
      intro h2 hm
      obtain ⟨e1, h3⟩ := xcf h2 g3
      have hq : pc = e9.2.1 := Nat.eq_of_beq_eq_true e1
      have hno : e9 ≠ xno := by
        intro q
        subst q
        exact xg4 (show xfail = r from h3) g3
      rcases hm with hm | hm
      · exact absurd hm hno
      rcases htab e9 hm with h4 | ⟨ins, alt, h4, h5⟩
      · exact absurd h4 hno
      rw [h4] at h3
      have h5' : xEok own nm nL cc (pc, e9.2.2.1, e9.2.2.2.1, e9.2.2.2.2.1, e9.2.2.2.2.2) ins alt := by rw [hq]; exact h5
      rcases xhand_ok C hcat h5' h3 g3 with ⟨pc', ls', st', ex', n', t', a', b', h6, h7⟩ | ht
      · exact h7 (ih h6)
      · exfalso
        rcases ht with ⟨ins', k', h8, -⟩ | ⟨E, i, h8, -⟩ | ⟨E, st', n', t', a', b', h8, -⟩
        · rw [h8] at g
          cases g
        · rw [h8] at g
          cases g
        · rw [h8] at g
          cases g
end XWK
