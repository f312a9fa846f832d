/-! THE LAW'S WALK: cases of the script's ints, runs from a picture made plain -/
noncomputable def xto (stop : Nat) (call : xA) (P : xP) (B : xB) (n : Nat) : xG := Nat.rec (fun _ _ _ _ _ _ _ _ => xfail) (fun _ ih pc ls st ex n t c d => cond (Nat.beq pc stop) (0, 0, 0, pc, ls, st, ex, n, t, c, d) (xstep call (fun j => (xmeths j).2) P B ih pc ls st ex n t c d)) n
noncomputable def xfI {α : Type} (z : Int) (f : Int → α) : α := Int.rec (fun m => xforce m (fun m => f (Int.ofNat m))) (fun m => xforce m (fun m => f (Int.negSucc m))) z
noncomputable def xfL {α : Type} (l : List xV) : (List xV → α) → α := List.rec (fun k => k []) (fun v _ ih k => Prod.rec (fun a z => xforce a (fun a => xfI z (fun z => ih (fun t => k ((a, z) :: t))))) v) l
noncomputable def xfC {α : Type} (c : xC) (k : xC → α) : α := Prod.rec (fun a c => Prod.rec (fun b l => xforce a (fun a => xforce b (fun b => xfL l (fun l => k (a, b, l))))) c) c
noncomputable def xfT {α : Type} (t : xT) : (xT → α) → α := Lean.RArray.rec (fun c k => xfC c (fun c => k (.leaf c))) (fun p _ _ ihl ihr k => ihl (fun l => ihr (fun r => k (.branch p l r)))) t
noncomputable def xfM {α : Type} (l : xL) : (xL → α) → α := List.rec (fun k => k []) (fun v _ ih k => Prod.rec (fun i v => Prod.rec (fun a z => xforce i (fun i => xforce a (fun a => xfI z (fun z => ih (fun t => k ((i, a, z) :: t)))))) v) v) l
noncomputable def xfS {α : Type} (r : xO) (k : Nat → xL → List xV → Bool → Nat → xT → Nat → Nat → α) : α :=
  Prod.rec (fun _ r => Prod.rec (fun _ r => Prod.rec (fun _ s => Prod.rec (fun pc s => Prod.rec (fun ls s => Prod.rec (fun st s => Prod.rec (fun ex s => Prod.rec (fun n s => Prod.rec (fun t s => Prod.rec (fun c d =>
    xforce pc (fun pc => xfM ls (fun ls => xfL st (fun st => xforce n (fun n => xforce c (fun c => xforce d (fun d => xfT t (fun t => cond ex (k pc ls st true n t c d) (k pc ls st false n t c d))))))))) s) s) s) s) s) s) s) r) r) r
theorem xfI_eq {α : Type} (z : Int) (f : Int → α) : xfI z f = f z := by
  cases z with
  | ofNat m => exact xforce_eq m (fun m => f (Int.ofNat m))
  | negSucc m => exact xforce_eq m (fun m => f (Int.negSucc m))
theorem xfL_eq {α : Type} : ∀ (l : List xV) (k : List xV → α), xfL l k = k l
  | [], _ => rfl
  | (a, z) :: l, k => by
    show xforce a (fun a => xfI z (fun z => xfL l (fun t => k ((a, z) :: t)))) = _
    rw [xforce_eq, xfI_eq, xfL_eq l]
theorem xfC_eq {α : Type} (c : xC) (k : xC → α) : xfC c k = k c := by
  obtain ⟨a, b, l⟩ := c
  show xforce a (fun a => xforce b (fun b => xfL l (fun l => k (a, b, l)))) = _
  rw [xforce_eq, xforce_eq, xfL_eq]
theorem xfT_eq {α : Type} : ∀ (t : xT) (k : xT → α), xfT t k = k t
  | .leaf c, k => by
    show xfC c (fun c => k (.leaf c)) = _
    rw [xfC_eq]
  | .branch p l r, k => by
    show xfT l (fun l => xfT r (fun r => k (.branch p l r))) = _
    rw [xfT_eq l, xfT_eq r]
theorem xfM_eq {α : Type} : ∀ (l : xL) (k : xL → α), xfM l k = k l
  | [], _ => rfl
  | (i, a, z) :: l, k => by
    show xforce i (fun i => xforce a (fun a => xfI z (fun z => xfM l (fun t => k ((i, a, z) :: t))))) = _
    rw [xforce_eq, xforce_eq, xfI_eq, xfM_eq l]
theorem xfS_eq {α : Type} (r : xO) (k : Nat → xL → List xV → Bool → Nat → xT → Nat → Nat → α) : xfS r k = k (rpc r) (rls r) (rst r) (rex r) (rn r) (rt r) (ra r) (rb r) := by
  obtain ⟨k1, v, y, pc, ls, st, ex, n, t, c, d⟩ := r
  show xforce pc (fun pc => xfM ls (fun ls => xfL st (fun st => xforce n (fun n => xforce c (fun c => xforce d (fun d => xfT t (fun t => cond ex (k pc ls st true n t c d) (k pc ls st false n t c d)))))))) = _
  rw [xforce_eq, xfM_eq, xfL_eq, xforce_eq, xforce_eq, xforce_eq, xfT_eq]
  cases ex <;> rfl
/-- the run on from there -/
noncomputable def xrun (B : xB) (pc : Nat) (ls : xL) (st : List xV) (ex : Bool) (n : Nat) (t : xT) (c d : Nat) : xO := xloop (xcall xmeths B 100000 10) (fun j => (xmeths j).2) xlaw B 100000 pc ls st ex n t c d
noncomputable def xone (st : List xV) : Bool := List.rec false (fun v t _ => List.rec (Prod.rec (fun a z => cond (Nat.beq a 2) (xieq z (Int.ofNat 1)) false) v) (fun _ _ _ => false) t) st
theorem xone_ok : ∀ {st : List xV}, xone st = true → st = [(2, Int.ofNat 1)]
  | [], h => by cases h
  | (a, z) :: [], h => by
    have h : cond (Nat.beq a 2) (xieq z (Int.ofNat 1)) false = true := h
    rcases xcc2 h with ⟨h1, h2⟩ | ⟨-, h2⟩
    · rw [Nat.eq_of_beq_eq_true h1, xieq_iff.mp h2]
    · cases h2
  | _ :: _ :: _, h => by cases h
noncomputable def xlr (B : xB) (v : Nat) (c : Int) (k : xB → xB → Bool) : Bool := Prod.rec (fun lo hi => xfI c (fun c => xfI (c - 1) (fun c1 => k (B.1, B.2.1, lset (lo, c1) B.2.2 v) (B.1, B.2.1, lset (c, hi) B.2.2 v)))) (xlo B v)
theorem xlr_eq (B : xB) (v : Nat) (c : Int) (k : xB → xB → Bool) : xlr B v c k = k (B.1, B.2.1, lset ((xlo B v).1, c - 1) B.2.2 v) (B.1, B.2.1, lset (c, (xlo B v).2) B.2.2 v) := by
  show xfI c (fun c => xfI (c - 1) (fun c1 => k (B.1, B.2.1, lset ((xlo B v).1, c1) B.2.2 v) (B.1, B.2.1, lset (c, (xlo B v).2) B.2.2 v))) = _
  rw [xfI_eq, xfI_eq]
noncomputable def xcut (pc : Nat) (ls : xL) (st : List xV) (ex : Bool) (n : Nat) (t : xT) (c d : Nat) (fuel : Nat) : xB → Bool := Nat.rec (fun _ => false) (fun _ ih B =>
  Prod.rec (fun k r => Prod.rec (fun v r => Prod.rec (fun y s => cond (Nat.beq k 1) (cond (Nat.beq v 1) (xone s.2.2.1) false) (cond (Nat.beq k 5) (xforce v (fun v => xlr B v y (fun b1 b2 => cond (ih b1) (ih b2) false))) false)) r) r) (xrun B pc ls st ex n t c d)) fuel
noncomputable def xevery (f : xB → Bool) (l : List xB) : Bool := List.rec true (fun a _ ih => cond (f a) ih false) l
theorem xevery_ok {f : xB → Bool} : ∀ {l : List xB}, xevery f l = true → ∀ B ∈ l, f B = true
  | [], _, _, h => by cases h
  | a :: l, h, B, hB => by
    have h : cond (f a) (xevery f l) false = true := h
    rcases xcc2 h with ⟨h1, h2⟩ | ⟨-, h2⟩
    · rcases List.mem_cons.mp hB with rfl | hB
      · exact h1
      · exact xevery_ok h2 B hB
    · cases h2
/-- the constructors: a script of L ints, its ints not looked at -/
noncomputable def xph (L : Nat) : xO := xto 28 (xcall xmeths (32, L, []) 100000 10) xlaw (32, L, []) 100000 0 [(0, 10, Int.ofNat 0)] [] true 0 (.leaf (9, 0, [])) 0 0
noncomputable def xallB (L : Nat) (Bs : List xB) : Bool := cond (Nat.beq (xph L).1 0) (xfS (xph L) (fun pc ls st ex n t c d => xevery (xcut pc ls st ex n t c d 200) Bs)) false
theorem xfullb (ρ : xE) (j : Nat) : (Int.negSucc 2147483647 : Int) ≤ (ρ.2.2 j).toInt ∧ (ρ.2.2 j).toInt ≤ Int.ofNat 2147483647 := by
  have h1 := Int32.le_toInt (ρ.2.2 j)
  have h2 := Int32.toInt_lt (ρ.2.2 j)
  have e1 : (Int.negSucc 2147483647) = -2147483648 := rfl
  have e2 : (Int.ofNat 2147483647) = 2147483647 := rfl
  rw [e1, e2]
  constructor <;> omega
theorem xbds_set {B : xB} {ρ : xE} (h : xbds B ρ) {v : Nat} {q : Int × Int} (h1 : q.1 ≤ (ρ.2.2 v).toInt) (h2 : (ρ.2.2 v).toInt ≤ q.2) : xbds (B.1, B.2.1, lset q B.2.2 v) ρ := by
  intro j
  show (lget _ (lset q B.2.2 v) j).1 ≤ _ ∧ _ ≤ (lget _ (lset q B.2.2 v) j).2
  by_cases hv : v < B.2.2.length
  · rw [lget_set _ _ hv]
    by_cases e : j = v
    · subst e
      rw [if_pos rfl]
      exact ⟨h1, h2⟩
    · rw [if_neg e]
      exact h j
  · rw [lset_eq, List.set_eq_of_length_le (by omega)]
    exact h j
section XWK
variable {p : Program} {l : Launch} {e : Env} {R : Room} {s : State} {m : MethodId} {args : Array Value} {below : List Frame} {meth : Method} {c : Code} {Q : State → Prop} {D : va_G} {ca : Nat → ClassId} {ρ : xE} {H0 : Heap} {nL : Nat}
variable {cc : ByteArray} {pc : Nat} {ls : xL} {st : List xV} {ex : Bool} {n : Nat} {t : xT} {a b : Nat}
theorem xto_ok {own nm : String} {d : Nat} {P : xP} {B : xB} {call : xA} (C : xCtx p l R s m args meth c D ca ρ H0 nL cc own nm d P.2 B call) (hcat : P.2.1 ≠ [] → xCatch p l e R s m args below meth c Q D ca ρ H0 nL P.2) (htab : xTab own nm nL cc P) {stop : Nat} {r : xO} (g : r.1 = 0)
    (hend : XG p l e R s m args below meth c Q D ca ρ H0 nL (rpc r) (rls r) (rst r) (rex r) (rn r) (rt r) (ra r) (rb r)) :
    ∀ (k : Nat) {pc : Nat} {ls : xL} {st : List xV} {ex : Bool} {n : Nat} {t : xT} {a b : Nat}, xto stop call P B k pc ls st ex n t a b = r → XG p l e R s m args below meth c Q D ca ρ H0 nL pc ls st ex n t a b := by
  have g3 : r.1 ≤ 3 := by omega
  intro k
  induction k with
  | zero => intro pc ls st ex n t a b h; exact (xg4 h g3).elim
  | succ k ih =>
    intro pc ls st ex n t a b h
    have h0 : cond (Nat.beq pc stop) (0, 0, 0, pc, ls, st, ex, n, t, a, b) (xforce pc (fun pc => xdo (tget xno P.1.1.1 P.1.2 pc) (fun h q len x y z => cond (Nat.beq pc q) (h call (fun j => (xmeths j).2) P.2 B len x y z (xto stop call P B k) pc ls st ex n t a b) xfail))) = r := h
    rcases xcc h0 with ⟨-, h1⟩ | ⟨-, h1⟩
    · subst h1
      exact hend
    · rw [xforce_eq] at h1
      have h2 : (fun e : xEn => cond (Nat.beq pc e.2.1) (e.1 call (fun j => (xmeths j).2) P.2 B e.2.2.1 e.2.2.2.1 e.2.2.2.2.1 e.2.2.2.2.2 (xto stop call P B k) pc ls st ex n t a b) xfail) (tget xno P.1.1.1 P.1.2 pc) = r := h1
      have hm := tget_mem xno P.1.1.1 P.1.2 pc
      revert h2 hm
      generalize tget xno P.1.1.1 P.1.2 pc = e9
      intro h2 hm
      obtain ⟨e1, h3⟩ := xcf h2 g3
      have hq : pc = e9.2.1 := Nat.eq_of_beq_eq_true e1
      have hno : e9 ≠ xno := by
        intro q
        subst q
        exact xg4 (show xfail = r from h3) g3
      rcases hm with hm | hm
      · exact absurd hm hno
      rcases htab e9 hm with h4 | ⟨ins, alt, h4, h5⟩
      · exact absurd h4 hno
      rw [h4] at h3
      have h5' : xEok own nm nL cc (pc, e9.2.2.1, e9.2.2.2.1, e9.2.2.2.2.1, e9.2.2.2.2.2) ins alt := by rw [hq]; exact h5
      rcases xhand_ok C hcat h5' h3 g3 with ⟨pc', ls', st', ex', n', t', a', b', h6, h7⟩ | ht
      · exact h7 (ih h6)
      · exfalso
        rcases ht with ⟨ins', k', h8, -⟩ | ⟨E, i, h8, -⟩ | ⟨E, st', n', t', a', b', h8, -⟩
        · rw [h8] at g
          cases g
        · rw [h8] at g
          cases g
        · rw [h8] at g
          cases g
theorem xcut_ok {L : Nat} (C : ∀ B : xB, xbds B ρ → (B.1 < 32 → ρ.2.2 0 &&& 31 = Int32.ofInt (Int.ofNat B.1)) → B.2.1 = L → xCtx p l R s m args meth c D ca ρ H0 9 code RL "law" 10 xlaw.2 B (xcall xmeths B 100000 10))
    (hend : ∀ r : xO, r.1 = 1 → r.2.1 = 1 → xone (rst r) = true → xEnd p l e R s m args below meth c Q D ca ρ H0 9 code xlaw.2 r) : ∀ (fuel : Nat) (B : xB), xcut pc ls st ex n t a b fuel B = true → xbds B ρ → (B.1 < 32 → ρ.2.2 0 &&& 31 = Int32.ofInt (Int.ofNat B.1)) → B.2.1 = L → XG p l e R s m args below meth c Q D ca ρ H0 9 pc ls st ex n t a b := by
  intro fuel
  induction fuel with
  | zero => intro B h; cases h
  | succ fuel ih =>
    intro B h hB hop hL
    have h : (fun r : xO => cond (Nat.beq r.1 1) (cond (Nat.beq r.2.1 1) (xone (rst r)) false) (cond (Nat.beq r.1 5) (xforce r.2.1 (fun v => xlr B v r.2.2.1 (fun b1 b2 => cond (xcut pc ls st ex n t a b fuel b1) (xcut pc ls st ex n t a b fuel b2) false))) false)) (xrun B pc ls st ex n t a b) = true := h
    generalize hr : xrun B pc ls st ex n t a b = r at h
    rcases xcc2 h with ⟨h1, h2⟩ | ⟨-, h2⟩
    · have h1 : r.1 = 1 := Nat.eq_of_beq_eq_true h1
      rcases xcc2 h2 with ⟨h3, h4⟩ | ⟨-, h4⟩
      · exact xloop_ok (C B hB hop hL) (fun q => absurd rfl q) xt157 (by omega) (hend r h1 (Nat.eq_of_beq_eq_true h3) h4) 100000 hr
      · cases h4
    · rcases xcc2 h2 with ⟨-, h3⟩ | ⟨-, h3⟩
      · rw [xforce_eq, xlr_eq] at h3
        rcases xcc2 h3 with ⟨h4, h5⟩ | ⟨-, h5⟩
        · by_cases hlt : (ρ.2.2 r.2.1).toInt < r.2.2.1
          · exact ih _ h4 (xbds_set hB (hB r.2.1).1 (show _ ≤ r.2.2.1 - 1 by omega)) hop hL
          · exact ih _ h5 (xbds_set hB (show r.2.2.1 ≤ _ by omega) (hB r.2.1).2) hop hL
        · cases h5
      · cases h3
theorem xbds_nil {k L : Nat} : xbds (k, L, []) ρ := fun j => xfullb ρ j
theorem xallB_ok {L : Nat} (C : ∀ B : xB, xbds B ρ → (B.1 < 32 → ρ.2.2 0 &&& 31 = Int32.ofInt (Int.ofNat B.1)) → B.2.1 = L → xCtx p l R s m args meth c D ca ρ H0 9 code RL "law" 10 xlaw.2 B (xcall xmeths B 100000 10))
    (hend : ∀ r : xO, r.1 = 1 → r.2.1 = 1 → xone (rst r) = true → xEnd p l e R s m args below meth c Q D ca ρ H0 9 code xlaw.2 r) {Bs : List xB} (h : xallB L Bs = true) {B : xB} (hm : B ∈ Bs) (hB : xbds B ρ) (hop : B.1 < 32 → ρ.2.2 0 &&& 31 = Int32.ofInt (Int.ofNat B.1)) (hL : B.2.1 = L) :
    XG p l e R s m args below meth c Q D ca ρ H0 9 0 [(0, 10, Int.ofNat 0)] [] true 0 (.leaf (9, 0, [])) 0 0 := by
  have h : cond (Nat.beq (xph L).1 0) (xfS (xph L) (fun pc ls st ex n t c d => xevery (xcut pc ls st ex n t c d 200) Bs)) false = true := h
  rcases xcc2 h with ⟨h1, h2⟩ | ⟨-, h2⟩
  · rw [xfS_eq] at h2
    have h3 := xevery_ok h2 B hm
    exact xto_ok (C (32, L, []) xbds_nil (fun q => absurd q (show ¬ 32 < 32 by omega)) rfl) (fun q => absurd rfl q) xt157 (Nat.eq_of_beq_eq_true h1) (xcut_ok C hend 200 B h3 hB hop hL) 100000 rfl
  · cases h2
end XWK
