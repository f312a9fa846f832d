/-! the constructors' run, for each length of the script -/
noncomputable def zph (L : Nat) : xO := xto 18 (xcall xmeths (32, L, []) 100000 10) xlaw (32, L, []) 100000 0 [(0, 10, Int.ofNat 0)] [] true 0 (.leaf (9, 0, [])) 0 0
def zlsq (ls : xL) : Bool := decide (ls = [(4, 2, Int.ofNat 0), (3, 1, Int.ofNat 854), (2, 2, Int.ofNat 0), (1, 1, Int.ofNat 0), (0, 10, Int.ofNat 0)])
noncomputable def zall (t : xT) : Bool := (List.range 855).all (fun k => zck k (tget (9, 0, []) 10 t k))
noncomputable def zgood (pc : Nat) (ls : xL) (st : List xV) (ex : Bool) (n : Nat) (t : xT) (c d : Nat) : Bool := Nat.beq pc 18 && (zlsq ls && (st.isEmpty && (ex && (Nat.beq n 855 && (Nat.beq c 855 && (Nat.beq d 5814 && zall t))))))
noncomputable def zchk (L : Nat) : Bool := Prod.rec (fun k1 r => cond (Nat.beq k1 0) (xfS (k1, r) zgood) false) (zph L)
