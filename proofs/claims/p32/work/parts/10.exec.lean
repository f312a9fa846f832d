/-! THE EXECUTOR: a run of the bytecode over a picture, decided by the kernel. Own definitions alone. -/
theorem z_far : (∀ h : True, h = h) := fun _ => (fun _ => rfl) @FP.Core.l2d_int
/-- a value: its kind and a number. 0 null, 1 the cell k, 2 int, 3 long, 4 double 0 or 1, 5 the script's int j, 6 it as a char, 7 it as a long, 8 it as a double, 9 it as a long as a double, 10 the script, 11 float 0 -/
abbrev xV : Type := Nat × Int
abbrev xL : Type := List (Nat × xV)
/-- a cell: object (0) or array (1); its class or type; what it holds -/
abbrev xC : Type := Nat × Nat × List xV
abbrev xT : Type := Lean.RArray xC
/-- pc, locals, stack, does the count hold of the heap's end, how many cells, the tree, new cells, new slots -/
abbrev xS : Type := Nat × xL × List xV × Bool × Nat × xT × Nat × Nat
/-- 1 at a return, 2 at a throw of class v, 3 class v was thrown and isn't caught here, 4 fails, 5 asks to part the script's int v at c -/
abbrev xO : Type := Nat × Nat × Int × xS
/-- the call's number, the script's length, bounds of its ints -/
abbrev xB : Type := Nat × Nat × List (Int × Int)
/-- of a method: handlers (from, to, class, local, behind the store), parameters, kind of answer, new cells, new slots -/
abbrev xQ : Type := List (Nat × Nat × Nat × Nat × Nat) × Nat × Nat × Nat × Nat
/-- how it goes on -/
abbrev xG : Type := Nat → xL → List xV → Bool → Nat → xT → Nat → Nat → xO
abbrev xA : Type := Nat → List xV → Bool → Nat → xT → xO
abbrev xH : Type := xA → (Nat → xQ) → xQ → xB → Nat → Nat → Nat → Nat → xG → xG
/-- an instruction's way, its place, its length, three numbers -/
abbrev xEn : Type := xH × Nat × Nat × Nat × Nat × Nat
/-- a method: code (the tree's depth, the slots of its locals, the tree), and the rest -/
abbrev xP : Type := ((Nat × Nat) × Lean.RArray xEn) × xQ

noncomputable def tget {α : Type} (z : α) (d : Nat) : Lean.RArray α → Nat → α := Nat.rec (fun t _ => Lean.RArray.rec (fun x => x) (fun _ _ _ _ _ => z) t) (fun _ ih t k => Lean.RArray.rec (fun x => x) (fun _ l r _ _ => cond (Nat.beq (Nat.mod k 2) 0) (ih l (Nat.div k 2)) (ih r (Nat.div k 2))) t) d
noncomputable def tset {α : Type} (x : α) (d : Nat) : Lean.RArray α → Nat → Lean.RArray α := Nat.rec (fun _ _ => .leaf x) (fun _ ih t k => Lean.RArray.rec (fun y => cond (Nat.beq (Nat.mod k 2) 0) (.branch 0 (ih (.leaf y) (Nat.div k 2)) (.leaf y)) (.branch 0 (.leaf y) (ih (.leaf y) (Nat.div k 2)))) (fun _ l r _ _ => cond (Nat.beq (Nat.mod k 2) 0) (.branch 0 (ih l (Nat.div k 2)) r) (.branch 0 l (ih r (Nat.div k 2)))) t) d
/-- the k-th of a list, or z -/
noncomputable def lget {α : Type} (z : α) (l : List α) : Nat → α := List.rec (fun _ => z) (fun a _ ih k => Nat.rec a (fun k _ => ih k) k) l
noncomputable def lset {α : Type} (x : α) (l : List α) : Nat → List α := List.rec (fun _ => []) (fun a t ih k => Nat.rec (x :: t) (fun k _ => a :: ih k) k) l
noncomputable def lrep {α : Type} (x : α) (n : Nat) : List α := Nat.rec [] (fun _ ih => x :: ih) n
noncomputable def xlook (l : xL) (k : Nat) (f : Nat → Int → xO) : xO := List.rec (f 99 0) (fun q _ ih => cond (Nat.beq q.1 k) (f q.2.1 q.2.2) ih) l
noncomputable def xforce {α : Type} (n : Nat) (f : Nat → α) : α := Nat.rec (f 0) (fun k _ => f (Nat.succ k)) n
noncomputable def xilt (a b : Int) : Bool := Int.rec (fun m => Int.rec (fun n => Nat.blt m n) (fun _ => false) b) (fun m => Int.rec (fun _ => true) (fun n => Nat.blt n m) b) a
noncomputable def xieq (a b : Int) : Bool := Int.rec (fun m => Int.rec (fun n => Nat.beq m n) (fun _ => false) b) (fun m => Int.rec (fun _ => false) (fun n => Nat.beq m n) b) a
noncomputable def xnat (a : Int) : Nat := Int.rec (fun m => m) (fun _ => 0) a

/-- 0 null, 1 ref, 2 int, 3 long, 4 double, 5 float, 9 none -/
noncomputable def xkind (t : Nat) : Nat := lget 9 [0, 1, 2, 3, 4, 2, 2, 3, 4, 4, 1, 5] t
noncomputable def xtwo (t : Nat) : Bool := lget false [false, false, false, true, true, false] (xkind t)
noncomputable def xkeep (k t : Nat) (q : Nat × xV) : Bool := cond (Nat.beq q.1 k) false (cond (cond (Nat.beq (Nat.succ q.1) k) (xtwo q.2.1) false) false (cond (cond (Nat.beq q.1 (Nat.succ k)) (xtwo t) false) false true))
noncomputable def xfilt (p : Nat × xV → Bool) (l : xL) : xL := List.rec [] (fun q _ ih => cond (p q) (q :: ih) ih) l

def xfail : xO := (4, 0, 0, 0, [], [], false, 0, .leaf (9, 0, []), 0, 0)
def xask (v : Nat) (c : Int) : xO := (5, v, c, 0, [], [], false, 0, .leaf (9, 0, []), 0, 0)
noncomputable def xlo (B : xB) (j : Nat) : Int × Int := lget (Int.negSucc 2147483647, Int.ofNat 2147483647) B.2.2 j
/-- an int by its number: of the script's it asks for a part -/
noncomputable def xneed (B : xB) (t : Nat) (z : Int) (k : Int → xO) : xO := cond (Nat.beq t 2) (k z) (cond (Nat.beq t 5) (xask (xnat z) ((xlo B (xnat z)).1 + 1)) xfail)
noncomputable def xin32 (z : Int) : Bool := cond (xilt z (Int.negSucc 2147483647)) false (xilt z (Int.ofNat 2147483648))
noncomputable def xin63 (z : Int) : Bool := cond (xilt z (Int.negSucc 9223372036854775807)) false (xilt z (Int.ofNat 9223372036854775808))
/-- bounds of an int: a number, or the script's -/
noncomputable def xbd (B : xB) (t : Nat) (z : Int) (k : Int → Int → xO) : xO := cond (Nat.beq t 2) (cond (xin32 z) (k z z) xfail) (cond (Nat.beq t 5) (Prod.rec (fun lo hi => k lo hi) (xlo B (xnat z))) xfail)
noncomputable def xsplit (t : Nat) (z : Int) (u : Nat) (w : Int) (a b : Int) : xO := cond (Nat.beq t 5) (xask (xnat z) a) (cond (Nat.beq u 5) (xask (xnat w) b) xfail)
noncomputable def xlt (B : xB) (t : Nat) (z : Int) (u : Nat) (w : Int) (y n : xO) : xO :=
  xbd B t z (fun a b => xbd B u w (fun c d => cond (xilt b c) y (cond (xilt a d) (xsplit t z u w c (b + 1)) n)))
noncomputable def xeq (B : xB) (t : Nat) (z : Int) (u : Nat) (w : Int) (y n : xO) : xO :=
  xbd B t z (fun a b => xbd B u w (fun c d => cond (xilt b c) n (cond (xilt d a) n (cond (xieq a b) (cond (xieq c d) y (xsplit t z u w c (cond (xilt c a) a (a + 1)))) (xsplit t z u w (cond (xilt a c) c (c + 1)) a)))))
noncomputable def xcond (c : ClassFile.Cond) (B : xB) (t : Nat) (z : Int) (u : Nat) (w : Int) (y n : xO) : xO :=
  ClassFile.Cond.rec (xeq B t z u w y n) (xeq B t z u w n y) (xlt B t z u w y n) (xlt B t z u w n y) (xlt B u w t z y n) (xlt B u w t z n y) c
/-- the stack's top, and below it -/
noncomputable def xpop (st : List xV) (k : Nat → Int → List xV → xO) : xO := List.rec xfail (fun v t _ => Prod.rec (fun a z => k a z t) v) st
/-- the cell at k -/
noncomputable def xcell (n : Nat) (t : xT) (k : Nat) (f : Nat → Nat → List xV → xO) : xO := cond (Nat.blt k n) (Prod.rec (fun a bl => Prod.rec (fun b l => f a b l) bl) (tget (9, 0, []) 10 t k)) xfail
noncomputable def xval (l : List xV) (k : Nat) (f : Nat → Int → xO) : xO := Prod.rec (fun a z => f a z) (lget (99, 0) l k)
/-- an object of class ci -/
noncomputable def xobj (n : Nat) (t : xT) (a : Nat) (z : Int) (ci : Nat) (f : List xV → xO) : xO := cond (Nat.beq a 1) (xcell n t (xnat z) (fun k c l => cond (Nat.beq k 0) (cond (Nat.beq c ci) (f l) xfail) xfail)) xfail
/-- an array of a type from lo to hi -/
noncomputable def xarr (n : Nat) (t : xT) (a : Nat) (z : Int) (lo hi : Nat) (f : Nat → List xV → xO) : xO := cond (Nat.beq a 1) (xcell n t (xnat z) (fun k c l => cond (Nat.beq k 1) (cond (Nat.ble lo c) (cond (Nat.ble c hi) (f c l) xfail) xfail) xfail)) xfail

noncomputable def hpush (a : Nat) (z : Int) : xH := fun _ _ _ _ len _ _ _ go pc ls st ex n t c d => go (pc + len) ls ((a, z) :: st) ex n t c d
noncomputable def hload (kd i : Nat) : xH := fun _ _ _ _ len _ _ _ go pc ls st ex n t c d => xlook ls i (fun a z => cond (Nat.beq (xkind a) kd) (go (pc + len) ls ((a, z) :: st) ex n t c d) xfail)
noncomputable def hloada (i : Nat) : xH := fun _ _ _ _ len _ _ _ go pc ls st ex n t c d => xlook ls i (fun a z => cond (Nat.ble (xkind a) 1) (go (pc + len) ls ((a, z) :: st) ex n t c d) xfail)
noncomputable def hstore (kd i : Nat) : xH := fun _ _ _ _ len _ _ _ go pc ls st ex n t c d => xpop st (fun a z st => cond (Nat.beq (xkind a) kd) (go (pc + len) ((i, a, z) :: xfilt (xkeep i a) ls) st ex n t c d) xfail)
noncomputable def hstorea (i : Nat) : xH := fun _ _ _ _ len _ _ _ go pc ls st ex n t c d => xpop st (fun a z st => cond (Nat.ble (xkind a) 1) (go (pc + len) ((i, a, z) :: xfilt (xkeep i a) ls) st ex n t c d) xfail)
noncomputable def hiinc (i : Nat) (k : Int) : xH := fun _ _ _ _ len _ _ _ go pc ls st ex n t c d => xlook ls i (fun a z => cond (Nat.beq a 2) (go (pc + len) ((i, 2, z + k) :: xfilt (xkeep i 2) ls) st ex n t c d) xfail)
noncomputable def hbin (f : Int → Int → Int) (ok : Int → Int → Bool) : xH := fun _ _ _ B len _ _ _ go pc ls st ex n t c d => xpop st (fun u w st => xpop st (fun a z st => xneed B a z (fun x => xneed B u w (fun y => cond (ok x y) (go (pc + len) ls ((2, f x y) :: st) ex n t c d) xfail))))
noncomputable def hand : xH := fun _ _ _ B len _ _ _ go pc ls st ex n t c d => xpop st (fun u w st => xpop st (fun a z st => cond (Nat.beq a 5) (cond (xieq z (Int.ofNat 0)) (cond (Nat.beq u 2) (cond (xieq w (Int.ofNat 31)) (cond (Nat.blt B.1 32) (go (pc + len) ls ((2, Int.ofNat B.1) :: st) ex n t c d) xfail) xfail) xfail) xfail) xfail))
noncomputable def hconv (f : Nat → Nat) (ok : Nat → Int → Bool) : xH := fun _ _ _ _ len _ _ _ go pc ls st ex n t c d => xpop st (fun a z st => cond (ok a z) (go (pc + len) ls ((f a, z) :: st) ex n t c d) xfail)
noncomputable def hlcmp : xH := fun _ _ _ _ len _ _ _ go pc ls st ex n t c d => xpop st (fun u w st => xpop st (fun a z st => cond (Nat.beq a 3) (cond (Nat.beq u 3) (cond (xin63 z) (cond (xin63 w) (go (pc + len) ls ((2, cond (xilt z w) (Int.negSucc 0) (cond (xieq z w) (Int.ofNat 0) (Int.ofNat 1))) :: st) ex n t c d) xfail) xfail) xfail) xfail))
noncomputable def hdup : xH := fun _ _ _ _ len _ _ _ go pc ls st ex n t c d => xpop st (fun a z st => cond (xtwo a) xfail (go (pc + len) ls ((a, z) :: (a, z) :: st) ex n t c d))
noncomputable def hpop : xH := fun _ _ _ _ len _ _ _ go pc ls st ex n t c d => xpop st (fun a _ st => cond (xtwo a) xfail (go (pc + len) ls st ex n t c d))
noncomputable def hif (k : ClassFile.Cond) : xH := fun _ _ _ B len x _ _ go pc ls st ex n t c d => xpop st (fun a z st => xcond k B a z 2 (Int.ofNat 0) (go x ls st ex n t c d) (go (pc + len) ls st ex n t c d))
noncomputable def hicmp (k : ClassFile.Cond) : xH := fun _ _ _ B len x _ _ go pc ls st ex n t c d => xpop st (fun u w st => xpop st (fun a z st => xcond k B a z u w (go x ls st ex n t c d) (go (pc + len) ls st ex n t c d)))
noncomputable def hgoto : xH := fun _ _ _ _ _ x _ _ go _ ls st ex n t c d => go x ls st ex n t c d
noncomputable def hnull (want : Bool) : xH := fun _ _ _ _ len x _ _ go pc ls st ex n t c d => xpop st (fun a _ st => cond (Nat.beq a 0) (cond want (go x ls st ex n t c d) (go (pc + len) ls st ex n t c d)) (cond (Nat.beq a 1) (cond want (go (pc + len) ls st ex n t c d) (go x ls st ex n t c d)) xfail))
noncomputable def hswitch (dflt lo hi : Int) (offs : List Int) : xH := fun _ _ _ _ _ _ _ _ go pc ls st ex n t c d => xpop st (fun a z st => cond (Nat.beq a 2) (cond (xin32 z) (cond (xilt z lo) (go (xnat (Int.ofNat pc + dflt)) ls st ex n t c d) (cond (xilt hi z) (go (xnat (Int.ofNat pc + dflt)) ls st ex n t c d) (go (xnat (Int.ofNat pc + lget 0 offs (xnat (z - lo)))) ls st ex n t c d))) xfail) xfail)
noncomputable def hget : xH := fun _ _ _ _ len ci k _ go pc ls st ex n t c d => xpop st (fun a z st => xobj n t a z ci (fun l => xval l k (fun u w => cond (Nat.beq u 99) xfail (go (pc + len) ls ((u, w) :: st) ex n t c d))))
/-- does a value fit a field's or an array's type: 0 int, 1 char, 2 boolean, 3 long, 4 double, 5 and on references -/
noncomputable def xfit (ty : Nat) (a : Nat) (z : Int) : Bool := cond (Nat.ble 5 ty) (Nat.ble a 1) (cond (Nat.beq ty 0) (Nat.beq (xkind a) 2) (cond (Nat.beq ty 1) (cond (Nat.beq a 2) (cond (xilt z (Int.ofNat 0)) false (xilt z (Int.ofNat 65536))) false) (cond (Nat.beq ty 2) (cond (Nat.beq a 2) (cond (xieq z (Int.ofNat 0)) true (xieq z (Int.ofNat 1))) false) (Nat.beq (xkind a) ty))))
noncomputable def hputf : xH := fun _ _ _ _ len ci k ty go pc ls st ex n t c d => xpop st (fun u w st => xpop st (fun a z st => xobj n t a z ci (fun l => xval l k (fun o _ => cond (Nat.beq o 99) xfail (cond (xfit ty u w) (go (pc + len) ls st ex n (tset (0, ci, lset (u, w) l k) 10 t (xnat z)) c d) xfail)))))
/-- a new cell -/
noncomputable def xnew (P : xQ) (len : Nat) (x : xC) (s : Nat) (go : xG) (pc : Nat) (ls : xL) (st : List xV) (ex : Bool) (n : Nat) (t : xT) (c d : Nat) : xO :=
  cond ex (cond (Nat.blt n 1024) (cond (Nat.blt c P.2.2.2.1) (cond (Nat.ble (d + s) P.2.2.2.2) (xforce (d + s) (fun d => go (pc + len) ls ((1, Int.ofNat n) :: st) true (Nat.succ n) (tset x 10 t n) (Nat.succ c) d)) xfail) xfail) xfail) xfail
noncomputable def xdflt (ty : Nat) : xV := lget (0, Int.ofNat 0) [(2, Int.ofNat 0), (2, Int.ofNat 0), (2, Int.ofNat 0), (3, Int.ofNat 0), (4, Int.ofNat 0)] ty
noncomputable def hnewa : xH := fun _ _ P B len ty _ _ go pc ls st ex n t c d => xpop st (fun a z st => xneed B a z (fun x => cond (xilt x (Int.ofNat 0)) xfail (cond (xilt x (Int.ofNat 100000)) (xnew P len (1, ty, lrep (xdflt ty) (xnat x)) (xnat x) go pc ls st ex n t c d) xfail)))
noncomputable def halen : xH := fun _ _ _ B len _ _ _ go pc ls st ex n t c d => xpop st (fun a z st => cond (Nat.beq a 10) (go (pc + len) ls ((2, Int.ofNat B.2.1) :: st) ex n t c d) (xarr n t a z 0 10 (fun _ l => go (pc + len) ls ((2, Int.ofNat l.length) :: st) ex n t c d)))
/-- the kind of what an array of the instruction's types gives -/
noncomputable def xkd (lo o : Nat) : Bool := cond (Nat.ble 5 lo) (Nat.ble o 1) (cond (Nat.beq lo 3) (Nat.beq (xkind o) 3) (Nat.beq (xkind o) 2))
/-- an index -/
noncomputable def xidx (x : Int) (k : xO) : xO := cond (xilt x (Int.ofNat 0)) xfail (cond (xilt x (Int.ofNat 2147483648)) k xfail)
/-- from an array: its type must be one of the instruction's -/
noncomputable def hald (lo hi : Nat) : xH := fun _ _ _ B len _ _ _ go pc ls st ex n t c d => xpop st (fun u w st => xpop st (fun a z st => xneed B u w (fun x => xidx x
  (cond (Nat.beq a 10) (cond (Nat.beq lo 0) (cond (Nat.blt (xnat x) B.2.1) (Prod.rec (fun p q => cond (xieq p q) (go (pc + len) ls ((2, p) :: st) ex n t c d) (go (pc + len) ls ((5, x) :: st) ex n t c d)) (xlo B (xnat x))) xfail) xfail)
    (xarr n t a z lo hi (fun _ l => xval l (xnat x) (fun o y => cond (xkd lo o) (go (pc + len) ls ((o, y) :: st) ex n t c d) xfail)))))))
/-- the class of what an array of references holds -/
noncomputable def xelem (ty : Nat) : Nat := lget 99 [99, 99, 99, 99, 99, 6, 5, 1, 0, 6, 6] ty
noncomputable def hast (lo hi : Nat) : xH := fun _ _ _ B len _ _ _ go pc ls st ex n t c d => xpop st (fun u w st => xpop st (fun v x st => xpop st (fun a z st => xneed B v x (fun x => xidx x
  (xarr n t a z lo hi (fun ty l => xval l (xnat x) (fun o _ => cond (Nat.beq o 99) xfail (cond (xfit ty u w)
    (cond (Nat.ble 5 lo) (xobj n t u w (xelem ty) (fun _ => go (pc + len) ls st ex n (tset (1, ty, lset (u, w) l (xnat x)) 10 t (xnat z)) c d)) (go (pc + len) ls st ex n (tset (1, ty, lset (u, w) l (xnat x)) 10 t (xnat z)) c d)) xfail))))))))
noncomputable def xsum (st : List xV) : Nat := List.rec 0 (fun v _ ih => Nat.add (cond (xtwo v.1) 2 1) ih) st
/-- a return: 0 none, 1 int, 4 long, 5 double, 6 reference, 7 float -/
noncomputable def hret (k : Nat) : xH := fun _ _ P _ _ _ _ _ _ pc ls st ex n t c d => cond (Nat.ble c P.2.2.2.1) (cond (Nat.ble d P.2.2.2.2) (1, k, 0, pc, ls, st, ex, n, t, c, d) xfail) xfail
/-- does the stack hold nothing but an answer of this kind: 0 none, 1 int, 2 char, 3 boolean, 4 long, 5 double, 6 reference, 7 float -/
noncomputable def xans (r : Nat) (st : List xV) : Bool := List.rec (Nat.beq r 0) (fun v t _ => Prod.rec (fun a z => List.rec (lget false [false, Nat.beq (xkind a) 2, xfit 1 a z, xfit 2 a z, xfit 3 a z, xfit 4 a z, Nat.ble a 1, Nat.beq a 11] r) (fun _ _ _ => false) t) v) st
noncomputable def xtake (n : Nat) : List xV → List xV → (List xV → List xV → xO) → xO := Nat.rec (fun acc st k => k acc st) (fun _ ih acc st k => List.rec xfail (fun v t _ => ih (v :: acc) t k) st) n
/-- the row of the table that takes class E at pc; a row of another class is passed only by what the tables say isn't of it -/
noncomputable def xtab (h : List (Nat × Nat × Nat × Nat × Nat)) (E pc : Nat) (k : Nat → Nat → xO) : xO := List.rec xfail (fun r _ ih => cond (Nat.ble r.1 pc) (cond (Nat.blt pc r.2.1) (cond (Nat.beq r.2.2.1 E) (k r.2.2.2.1 r.2.2.2.2) (cond (Nat.beq r.2.2.1 4) (cond (Nat.beq E 2) ih (cond (Nat.beq E 3) ih xfail)) xfail)) ih) ih) h
/-- the return's kind of an answer's -/
noncomputable def xrd (k : Nat) : Nat := cond (Nat.beq k 2) 1 (cond (Nat.beq k 3) 1 k)
/-- behind a call of P9 -/
noncomputable def xback (P P9 : xQ) (r : xO) (go : xG) (pc : Nat) (ls : xL) (st : List xV) (c d : Nat) : xO :=
  Prod.rec (fun k r => Prod.rec (fun v r => Prod.rec (fun y s => Prod.rec (fun _ s => Prod.rec (fun _ s => Prod.rec (fun st9 s => Prod.rec (fun ex s => Prod.rec (fun n s => Prod.rec (fun t _ =>
    cond (Nat.beq k 1) (cond (xans P9.2.2.1 st9) (cond (Nat.beq v (xrd P9.2.2.1)) (go (pc + 3) ls (st9 ++ st) ex n t c d) xfail) xfail)
      (cond (Nat.ble k 3) (List.rec (List.rec (3, v, 0, pc, ls, st, false, n, t, c, d) (fun _ _ _ => xtab P.1 v pc (fun i pc => go pc (xfilt (fun q => xkeep i 1 q) ls) [] false n t c d)) P.1) (fun _ _ _ => xfail) P9.1)
        (cond (Nat.beq k 5) (xask v y) xfail))) s) s) s) s) s) s) r) r) r
/-- instance methods: y 0 virtual (the receiver's class z), 1 a constructor -/
noncomputable def xroom (P P9 : xQ) (st : List xV) (c d : Nat) (k : Nat → Nat → xO) : xO := cond (Nat.ble (xsum st) 8) (xforce (c + P9.2.2.2.1) (fun c => cond (Nat.ble c P.2.2.2.1) (xforce (d + P9.2.2.2.2) (fun d => cond (Nat.ble d P.2.2.2.2) (k c d) xfail)) xfail)) xfail
noncomputable def hcalls : xH := fun call meths P _ _ i _ _ go pc ls st ex n t c d => xtake (meths i).2.1 [] st (fun as st => xroom P (meths i) st c d (fun c d => xback P (meths i) (call i as ex n t) go pc ls st c d))
noncomputable def hcallv : xH := fun call meths P _ _ i y ci go pc ls st ex n t c d => xtake (meths i).2.1 [] st (fun as st => xpop st (fun a z st => xroom P (meths i) st c d (fun c d =>
  cond (Nat.beq y 0) (xobj n t a z ci (fun _ => xback P (meths i) (call i ((a, z) :: as) ex n t) go pc ls st c d)) (cond (Nat.beq a 1) (xback P (meths i) (call i ((a, z) :: as) ex n t) go pc ls st c d) xfail))))
noncomputable def hspec : xH := fun call meths P B len i y ci go pc ls st ex n t c d => cond (Nat.beq y 9) (xpop st (fun a _ st => cond (Nat.beq a 1) (cond (Nat.ble (xsum st) 8) (go (pc + len) ls st ex n t c d) xfail) xfail)) (hcallv call meths P B len i y ci go pc ls st ex n t c d)
/-- a new object's fields -/
noncomputable def xnews (ci : Nat) : List xV := lget [] [
  [(0,Int.ofNat 0),(2,Int.ofNat 0),(3,Int.ofNat 0),(2,Int.ofNat 0),(2,Int.ofNat 0),(2,Int.ofNat 0),(0,Int.ofNat 0)],
  [(2,Int.ofNat 0),(2,Int.ofNat 0),(0,Int.ofNat 0),(0,Int.ofNat 0),(2,Int.ofNat 0),(2,Int.ofNat 0),(2,Int.ofNat 0),(2,Int.ofNat 0),(2,Int.ofNat 0)],
  [(0,Int.ofNat 0),(0,Int.ofNat 0),(0,Int.ofNat 0),(2,Int.ofNat 0),(2,Int.ofNat 0),(2,Int.ofNat 0)],
  [(0,Int.ofNat 0),(0,Int.ofNat 0),(2,Int.ofNat 0),(0,Int.ofNat 0),(2,Int.ofNat 0),(3,Int.ofNat 0),(0,Int.ofNat 0),(2,Int.ofNat 0),(3,Int.ofNat 0),(2,Int.ofNat 0),(0,Int.ofNat 0),(0,Int.ofNat 0),(0,Int.ofNat 0),(2,Int.ofNat 0),(0,Int.ofNat 0),(2,Int.ofNat 0)],
  [(0,Int.ofNat 0),(0,Int.ofNat 0),(2,Int.ofNat 0)],
  [(2,Int.ofNat 0),(2,Int.ofNat 0),(0,Int.ofNat 0),(2,Int.ofNat 0),(2,Int.ofNat 0),(2,Int.ofNat 0)],
  [(2,Int.ofNat 0),(4,Int.ofNat 0),(2,Int.ofNat 0),(3,Int.ofNat 0),(2,Int.ofNat 0),(0,Int.ofNat 0)],
  [(0,Int.ofNat 0),(0,Int.ofNat 0),(0,Int.ofNat 0)],
  [(2,Int.ofNat 0),(4,Int.ofNat 0),(2,Int.ofNat 0),(3,Int.ofNat 0),(2,Int.ofNat 0),(0,Int.ofNat 0)],
  [(2,Int.ofNat 0),(4,Int.ofNat 0),(2,Int.ofNat 0),(3,Int.ofNat 0),(2,Int.ofNat 0),(0,Int.ofNat 0)],
  [(2,Int.ofNat 0),(4,Int.ofNat 0),(2,Int.ofNat 0),(3,Int.ofNat 0),(2,Int.ofNat 0),(0,Int.ofNat 0)]] ci
noncomputable def hnew : xH := fun _ _ P _ len ci N z go pc ls st ex n t c d => cond (Nat.beq z 1) (cond (Nat.ble (xsum st) 8) (cond (Nat.blt c P.2.2.2.1) (cond (Nat.ble (d + 6) P.2.2.2.2) (2, ci, 0, pc, ls, st, ex, n, t, c, d) xfail) xfail) xfail) (xnew P len (0, ci, xnews ci) N go pc ls st ex n t c d)
noncomputable def hbad : xH := fun _ _ _ _ _ _ _ _ _ _ _ _ _ _ _ _ _ => xfail
noncomputable def xin31 (a b : Int) : Bool := cond (xilt a (Int.ofNat 0)) false (cond (xilt a (Int.ofNat 2147483648)) (cond (xilt (Int.ofNat 0) b) (xilt b (Int.ofNat 2147483648)) false) false)

noncomputable def xhand (i : Instr) : xH := match i with
  | .aconst_null => hpush 0 (Int.ofNat 0)
  | .iconst n => hpush 2 n
  | .bipush n => hpush 2 n
  | .sipush n => hpush 2 n
  | .lconst n => hpush 3 (Int.ofNat n.val)
  | .dconst n => hpush 4 (Int.ofNat n.val)
  | .fconst n => cond (Nat.beq n.val 0) (hpush 11 (Int.ofNat 0)) hbad
  | .iload_n k => hload 2 k.val
  | .iload k => hload 2 k
  | .lload_n k => hload 3 k.val
  | .lload k => hload 3 k
  | .dload_n k => hload 4 k.val
  | .dload k => hload 4 k
  | .aload_n k => hloada k.val
  | .aload k => hloada k
  | .istore_n k => hstore 2 k.val
  | .istore k => hstore 2 k
  | .lstore_n k => hstore 3 k.val
  | .lstore k => hstore 3 k
  | .dstore_n k => hstore 4 k.val
  | .dstore k => hstore 4 k
  | .fstore_n k => hstore 5 k.val
  | .fstore k => hstore 5 k
  | .astore_n k => hstorea k.val
  | .astore k => hstorea k
  | .iinc k n => hiinc k n
  | .iadd => hbin (fun a b => a + b) (fun _ _ => true)
  | .isub => hbin (fun a b => a - b) (fun _ _ => true)
  | .imul => hbin (fun a b => a * b) (fun _ _ => true)
  | .idiv => hbin (fun a b => a / b) xin31
  | .iand => hand
  | .i2l => hconv (fun a => cond (Nat.beq a 2) 3 7) (fun a z => cond (Nat.beq a 2) (xin32 z) (Nat.beq a 5))
  | .l2i => hconv (fun _ => 2) (fun a _ => Nat.beq a 3)
  | .i2c => hconv (fun _ => 6) (fun a _ => Nat.beq a 5)
  | .i2d => hconv (fun _ => 8) (fun a _ => Nat.beq a 5)
  | .l2d => hconv (fun _ => 9) (fun a _ => Nat.beq a 7)
  | .lcmp => hlcmp
  | .dup => hdup
  | .pop => hpop
  | .ifCond c _ => hif c
  | .if_icmp c _ => hicmp c
  | .goto _ => hgoto
  | .ifnull _ => hnull true
  | .ifnonnull _ => hnull false
  | .tableswitch d lo hi offs => hswitch d lo hi offs.toList
  | .getfield _ => hget
  | .putfield _ => hputf
  | .new _ => hnew
  | .newarray _ => hnewa
  | .anewarray _ => hnewa
  | .arraylength => halen
  | .iaload => hald 0 0
  | .aaload => hald 5 10
  | .iastore => hast 0 0
  | .aastore => hast 5 10
  | .invokestatic _ => hcalls
  | .invokevirtual _ => hcallv
  | .invokespecial _ => hspec
  | .ireturn => hret 1
  | .lreturn => hret 4
  | .dreturn => hret 5
  | .freturn => hret 7
  | .areturn => hret 6
  | .return_ => hret 0
  | _ => hbad

noncomputable def xdo (e : xEn) (f : xH → Nat → Nat → Nat → Nat → Nat → xO) : xO := Prod.rec (fun i e => Prod.rec (fun p e => Prod.rec (fun a e => Prod.rec (fun b e => Prod.rec (fun c d => f i p a b c d) e) e) e) e) e
noncomputable def xno : xEn := (hbad, 0, 0, 0, 0, 0)
noncomputable def xstep (call : xA) (info : Nat → xQ) (P : xP) (B : xB) (go : xG) : xG := fun pc ls st ex n t c d => xforce pc (fun pc => xdo (tget xno P.1.1.1 P.1.2 pc) (fun h q len x y z => cond (Nat.beq pc q) (h call info P.2 B len x y z go pc ls st ex n t c d) xfail))
noncomputable def xloop (call : xA) (info : Nat → xQ) (P : xP) (B : xB) (n : Nat) : xG := Nat.rec (fun _ _ _ _ _ _ _ _ => xfail) (fun _ ih => xstep call info P B ih) n
noncomputable def xargs (as : List xV) : Nat → xL := List.rec (fun _ => []) (fun v _ ih i => (i, v) :: ih (Nat.add i (cond (xtwo v.1) 2 1))) as
noncomputable def xcall (meths : Nat → xP) (B : xB) (fuel d : Nat) : xA := Nat.rec (fun _ _ _ _ _ => xfail) (fun _ ih i as ex n t => cond (Nat.ble (xsum as) (meths i).1.1.2) (xloop ih (fun j => (meths j).2) (meths i) B fuel 0 (xargs as 0) [] ex n t 0 0) xfail) d
