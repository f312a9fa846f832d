/-! the constructors' run. An executor that has no script on its stack: it answers alike whatever the script's length -/
noncomputable def yok (st : List xV) : Bool := List.rec true (fun v _ ih => cond (Nat.beq v.1 10) false ih) st
noncomputable def ystep (call : xA) (info : Nat → xQ) (P : xP) (B : xB) (go : xG) : xG := fun pc ls st ex n t c d => cond (yok st) (xstep call info P B go pc ls st ex n t c d) xfail
noncomputable def yloop (call : xA) (info : Nat → xQ) (P : xP) (B : xB) (n : Nat) : xG := Nat.rec (fun _ _ _ _ _ _ _ _ => xfail) (fun _ ih => ystep call info P B ih) n
noncomputable def ycall (meths : Nat → xP) (B : xB) (fuel d : Nat) : xA := Nat.rec (fun _ _ _ _ _ => xfail) (fun _ ih i as ex n t => cond (Nat.blt i 131) (cond (Nat.ble (xsum as) (meths i).1.1.2) (yloop ih (fun j => (meths j).2) (meths i) B fuel 0 (xargs as 0) [] ex n t 0 0) xfail) xfail) d
noncomputable def yto (stop : Nat) (call : xA) (P : xP) (B : xB) (n : Nat) : xG := Nat.rec (fun _ _ _ _ _ _ _ _ => xfail) (fun _ ih pc ls st ex n t c d => cond (Nat.beq pc stop) (0, 0, 0, pc, ls, st, ex, n, t, c, d) (ystep call (fun j => (xmeths j).2) P B ih pc ls st ex n t c d)) n
/-- the second answers as the first, where the first does -/
def xle (r r' : xO) : Prop := r.1 ≤ 3 → r' = r
theorem xle_r (r : xO) : xle r r := fun _ => rfl
theorem xle_f (r' : xO) : xle xfail r' := fun g => absurd g (by show ¬ (4 : Nat) ≤ 3; omega)
theorem xle_a {v : Nat} {c : Int} (r' : xO) : xle (xask v c) r' := fun g => absurd g (by show ¬ (5 : Nat) ≤ 3; omega)
theorem xle_c {b : Bool} {x y x' y' : xO} (h : xle x x') (k : xle y y') : xle (cond b x y) (cond b x' y') := by
  cases b
  · exact k
  · exact h
theorem xle_pop {st : List xV} {k k' : Nat → Int → List xV → xO} (h : ∀ a z s, st = (a, z) :: s → xle (k a z s) (k' a z s)) : xle (xpop st k) (xpop st k') := by
  cases st with
  | nil => exact xle_f _
  | cons v s => exact h v.1 v.2 s rfl
theorem xle_look {k : Nat} {f f' : Nat → Int → xO} (h : ∀ a z, xle (f a z) (f' a z)) : ∀ l : xL, xle (xlook l k f) (xlook l k f')
  | [] => h 99 0
  | q :: l => xle_c (h q.2.1 q.2.2) (xle_look h l)
theorem xle_force {n : Nat} {f f' : Nat → xO} (h : ∀ k, xle (f k) (f' k)) : xle (xforce n f) (xforce n f') := by
  rw [xforce_eq, xforce_eq]
  exact h n
theorem xle_need {b L L' : Nat} {bl : List (Int × Int)} {t : Nat} {z : Int} {k k' : Int → xO} (h : ∀ x, xle (k x) (k' x)) : xle (xneed (b, L, bl) t z k) (xneed (b, L', bl) t z k') := xle_c (h z) (xle_c (xle_r _) (xle_r _))
theorem xle_bd {b L L' : Nat} {bl : List (Int × Int)} {t : Nat} {z : Int} {k k' : Int → Int → xO} (h : ∀ x y, xle (k x y) (k' x y)) : xle (xbd (b, L, bl) t z k) (xbd (b, L', bl) t z k') :=
  xle_c (xle_c (h z z) (xle_r _)) (xle_c (h (xlo (b, L, bl) (xnat z)).1 (xlo (b, L, bl) (xnat z)).2) (xle_r _))
theorem xle_lt {b L L' : Nat} {bl : List (Int × Int)} {t u : Nat} {z v : Int} {y n y' n' : xO} (hy : xle y y') (hn : xle n n') : xle (xlt (b, L, bl) t z u v y n) (xlt (b, L', bl) t z u v y' n') :=
  xle_bd fun _ _ => xle_bd fun _ _ => xle_c hy (xle_c (xle_r _) hn)
theorem xle_eq {b L L' : Nat} {bl : List (Int × Int)} {t u : Nat} {z v : Int} {y n y' n' : xO} (hy : xle y y') (hn : xle n n') : xle (xeq (b, L, bl) t z u v y n) (xeq (b, L', bl) t z u v y' n') :=
  xle_bd fun _ _ => xle_bd fun _ _ => xle_c hn (xle_c hn (xle_c (xle_c hy (xle_r _)) (xle_r _)))
theorem xle_cond {b L L' : Nat} {bl : List (Int × Int)} {k : ClassFile.Cond} {t u : Nat} {z v : Int} {y n y' n' : xO} (hy : xle y y') (hn : xle n n') : xle (xcond k (b, L, bl) t z u v y n) (xcond k (b, L', bl) t z u v y' n') := by
  cases k
  · exact xle_eq hy hn
  · exact xle_eq hn hy
  · exact xle_lt hy hn
  · exact xle_lt hn hy
  · exact xle_lt hy hn
  · exact xle_lt hn hy
theorem xle_cell {n : Nat} {t : xT} {k : Nat} {f f' : Nat → Nat → List xV → xO} (h : ∀ a b l, xle (f a b l) (f' a b l)) : xle (xcell n t k f) (xcell n t k f') := xle_c (h (tget (9, 0, []) 10 t k).1 (tget (9, 0, []) 10 t k).2.1 (tget (9, 0, []) 10 t k).2.2) (xle_r _)
theorem xle_val {l : List xV} {k : Nat} {f f' : Nat → Int → xO} (h : ∀ a z, xle (f a z) (f' a z)) : xle (xval l k f) (xval l k f') := h (lget (99, 0) l k).1 (lget (99, 0) l k).2
theorem xle_obj {n : Nat} {t : xT} {a : Nat} {z : Int} {ci : Nat} {f f' : List xV → xO} (h : ∀ l, xle (f l) (f' l)) : xle (xobj n t a z ci f) (xobj n t a z ci f') := xle_c (xle_cell fun _ _ l => xle_c (xle_c (h l) (xle_r _)) (xle_r _)) (xle_r _)
theorem xle_arr {n : Nat} {t : xT} {a : Nat} {z : Int} {lo hi : Nat} {f f' : Nat → List xV → xO} (h : ∀ c l, xle (f c l) (f' c l)) : xle (xarr n t a z lo hi f) (xarr n t a z lo hi f') := xle_c (xle_cell fun _ c l => xle_c (xle_c (xle_c (h c l) (xle_r _)) (xle_r _)) (xle_r _)) (xle_r _)
theorem xle_idx {x : Int} {k k' : xO} (h : xle k k') : xle (xidx x k) (xidx x k') := xle_c (xle_r _) (xle_c h (xle_r _))
theorem xle_new {P : xQ} {len : Nat} {x : xC} {s : Nat} {go go' : xG} (G : ∀ pc ls st ex n t c d, xle (go pc ls st ex n t c d) (go' pc ls st ex n t c d)) {pc : Nat} {ls : xL} {st : List xV} {ex : Bool} {n : Nat} {t : xT} {c d : Nat} : xle (xnew P len x s go pc ls st ex n t c d) (xnew P len x s go' pc ls st ex n t c d) :=
  xle_c (xle_c (xle_c (xle_c (xle_force fun _ => G _ _ _ _ _ _ _ _) (xle_r _)) (xle_r _)) (xle_r _)) (xle_r _)
theorem xle_take {k k' : List xV → List xV → xO} (h : ∀ a s, xle (k a s) (k' a s)) : ∀ (n : Nat) (acc st : List xV), xle (xtake n acc st k) (xtake n acc st k')
  | 0, acc, st => h acc st
  | n + 1, acc, [] => xle_f _
  | n + 1, acc, v :: s => xle_take h n (v :: acc) s
theorem xle_tab {E pc : Nat} {k k' : Nat → Nat → xO} (h : ∀ a b, xle (k a b) (k' a b)) : ∀ l : List (Nat × Nat × Nat × Nat × Nat), xle (xtab l E pc k) (xtab l E pc k')
  | [] => xle_f _
  | r :: l => xle_c (xle_c (xle_c (h r.2.2.2.1 r.2.2.2.2) (xle_c (xle_c (xle_tab h l) (xle_c (xle_tab h l) (xle_r _))) (xle_r _))) (xle_tab h l)) (xle_tab h l)
theorem xle_back {P P9 : xQ} {r r' : xO} (hr : xle r r') {go go' : xG} (G : ∀ pc ls st ex n t c d, xle (go pc ls st ex n t c d) (go' pc ls st ex n t c d)) {pc : Nat} {ls : xL} {st : List xV} {c d : Nat} : xle (xback P P9 r go pc ls st c d) (xback P P9 r' go' pc ls st c d) := by
  by_cases g : r.1 ≤ 3
  · rw [hr g]
    obtain ⟨k, v, y, pc0, ls0, st9, ex, n, t, c0, d0⟩ := r
    refine xle_c (xle_c (xle_c (G _ _ _ _ _ _ _ _) (xle_r _)) (xle_r _)) (xle_c ?_ (xle_r _))
    cases P9.1 with
    | cons _ _ => exact xle_f _
    | nil =>
      cases hP : P.1 with
      | nil => exact xle_r _
      | cons q l =>
        show xle (xtab (q :: l) v pc (fun i pc => go pc (xfilt (fun q => xkeep i 1 q) ls) [] false n t c d)) (xtab (q :: l) v pc (fun i pc => go' pc (xfilt (fun q => xkeep i 1 q) ls) [] false n t c d))
        exact xle_tab (fun _ _ => G _ _ _ _ _ _ _ _) _
  · obtain ⟨k, v, y, pc0, ls0, st9, ex, n, t, c0, d0⟩ := r
    have g : ¬ k ≤ 3 := g
    have h1 : Nat.beq k 1 = false := by
      cases h : Nat.beq k 1 with
      | false => rfl
      | true => have := Nat.eq_of_beq_eq_true h; omega
    have h3 : Nat.ble k 3 = false := by
      cases h : Nat.ble k 3 with
      | false => rfl
      | true => have := Nat.le_of_ble_eq_true h; omega
    have e : xback P P9 (k, v, y, pc0, ls0, st9, ex, n, t, c0, d0) go pc ls st c d = cond (Nat.beq k 5) (xask v y) xfail := by
      show cond (Nat.beq k 1) _ (cond (Nat.ble k 3) _ (cond (Nat.beq k 5) (xask v y) xfail)) = _
      rw [h1, h3]
      rfl
    rw [e]
    cases Nat.beq k 5
    · exact xle_f _
    · exact xle_a _
theorem xle_room {P P9 : xQ} {st : List xV} {c d : Nat} {k k' : Nat → Nat → xO} (h : ∀ a b, xle (k a b) (k' a b)) : xle (xroom P P9 st c d k) (xroom P P9 st c d k') :=
  xle_c (xle_force fun _ => xle_c (xle_force fun _ => xle_c (h _ _) (xle_r _)) (xle_r _)) (xle_r _)
/-- an instruction's way answers alike for each length of the script, with no script on the stack -/
def xLe (h : xH) : Prop := ∀ (call call' : xA) (meths : Nat → xQ) (P : xQ) (b L L' : Nat) (bl : List (Int × Int)) (len x y z : Nat) (go go' : xG) (pc : Nat) (ls : xL) (st : List xV) (ex : Bool) (n : Nat) (t : xT) (c d : Nat),
  (∀ i as ex n t, xle (call i as ex n t) (call' i as ex n t)) → (∀ pc ls st ex n t c d, xle (go pc ls st ex n t c d) (go' pc ls st ex n t c d)) → yok st = true → xle (h call meths P (b, L, bl) len x y z go pc ls st ex n t c d) (h call' meths P (b, L', bl) len x y z go' pc ls st ex n t c d)
theorem yok_1 {a : Nat} {z : Int} {s : List xV} (h : yok ((a, z) :: s) = true) : Nat.beq a 10 = false ∧ yok s = true := by
  have h : cond (Nat.beq a 10) false (yok s) = true := h
  cases e : Nat.beq a 10 with
  | true => rw [e] at h; cases h
  | false => rw [e] at h; exact ⟨rfl, h⟩

theorem xle_hpush (a : Nat) (z : Int) : xLe (hpush a z) := by
  intro call call' meths P b L L' bl len x y z go go' pc ls st ex n t c d C G K
  delta hpush
  repeat' (first | exact xle_f _ | exact G _ _ _ _ _ _ _ _ | exact xle_r _ | (with_reducible refine xle_c ?_ ?_) | (with_reducible refine xle_pop (fun _ _ _ _ => ?_)) | (with_reducible refine xle_look (fun _ _ => ?_) _) | (with_reducible refine xle_need (fun _ => ?_)) | (with_reducible refine xle_cond ?_ ?_) | (with_reducible refine xle_obj (fun _ => ?_)) | (with_reducible refine xle_val (fun _ _ => ?_)) | (with_reducible refine xle_arr (fun _ _ => ?_)) | (with_reducible refine xle_idx ?_) | (with_reducible refine xle_new G))
theorem xle_hload (kd i : Nat) : xLe (hload kd i) := by
  intro call call' meths P b L L' bl len x y z go go' pc ls st ex n t c d C G K
  delta hload
  repeat' (first | exact xle_f _ | exact G _ _ _ _ _ _ _ _ | exact xle_r _ | (with_reducible refine xle_c ?_ ?_) | (with_reducible refine xle_pop (fun _ _ _ _ => ?_)) | (with_reducible refine xle_look (fun _ _ => ?_) _) | (with_reducible refine xle_need (fun _ => ?_)) | (with_reducible refine xle_cond ?_ ?_) | (with_reducible refine xle_obj (fun _ => ?_)) | (with_reducible refine xle_val (fun _ _ => ?_)) | (with_reducible refine xle_arr (fun _ _ => ?_)) | (with_reducible refine xle_idx ?_) | (with_reducible refine xle_new G))
theorem xle_hloada (i : Nat) : xLe (hloada i) := by
  intro call call' meths P b L L' bl len x y z go go' pc ls st ex n t c d C G K
  delta hloada
  repeat' (first | exact xle_f _ | exact G _ _ _ _ _ _ _ _ | exact xle_r _ | (with_reducible refine xle_c ?_ ?_) | (with_reducible refine xle_pop (fun _ _ _ _ => ?_)) | (with_reducible refine xle_look (fun _ _ => ?_) _) | (with_reducible refine xle_need (fun _ => ?_)) | (with_reducible refine xle_cond ?_ ?_) | (with_reducible refine xle_obj (fun _ => ?_)) | (with_reducible refine xle_val (fun _ _ => ?_)) | (with_reducible refine xle_arr (fun _ _ => ?_)) | (with_reducible refine xle_idx ?_) | (with_reducible refine xle_new G))
theorem xle_hstore (kd i : Nat) : xLe (hstore kd i) := by
  intro call call' meths P b L L' bl len x y z go go' pc ls st ex n t c d C G K
  delta hstore
  repeat' (first | exact xle_f _ | exact G _ _ _ _ _ _ _ _ | exact xle_r _ | (with_reducible refine xle_c ?_ ?_) | (with_reducible refine xle_pop (fun _ _ _ _ => ?_)) | (with_reducible refine xle_look (fun _ _ => ?_) _) | (with_reducible refine xle_need (fun _ => ?_)) | (with_reducible refine xle_cond ?_ ?_) | (with_reducible refine xle_obj (fun _ => ?_)) | (with_reducible refine xle_val (fun _ _ => ?_)) | (with_reducible refine xle_arr (fun _ _ => ?_)) | (with_reducible refine xle_idx ?_) | (with_reducible refine xle_new G))
theorem xle_hstorea (i : Nat) : xLe (hstorea i) := by
  intro call call' meths P b L L' bl len x y z go go' pc ls st ex n t c d C G K
  delta hstorea
  repeat' (first | exact xle_f _ | exact G _ _ _ _ _ _ _ _ | exact xle_r _ | (with_reducible refine xle_c ?_ ?_) | (with_reducible refine xle_pop (fun _ _ _ _ => ?_)) | (with_reducible refine xle_look (fun _ _ => ?_) _) | (with_reducible refine xle_need (fun _ => ?_)) | (with_reducible refine xle_cond ?_ ?_) | (with_reducible refine xle_obj (fun _ => ?_)) | (with_reducible refine xle_val (fun _ _ => ?_)) | (with_reducible refine xle_arr (fun _ _ => ?_)) | (with_reducible refine xle_idx ?_) | (with_reducible refine xle_new G))
theorem xle_hiinc (i : Nat) (k : Int) : xLe (hiinc i k) := by
  intro call call' meths P b L L' bl len x y z go go' pc ls st ex n t c d C G K
  delta hiinc
  repeat' (first | exact xle_f _ | exact G _ _ _ _ _ _ _ _ | exact xle_r _ | (with_reducible refine xle_c ?_ ?_) | (with_reducible refine xle_pop (fun _ _ _ _ => ?_)) | (with_reducible refine xle_look (fun _ _ => ?_) _) | (with_reducible refine xle_need (fun _ => ?_)) | (with_reducible refine xle_cond ?_ ?_) | (with_reducible refine xle_obj (fun _ => ?_)) | (with_reducible refine xle_val (fun _ _ => ?_)) | (with_reducible refine xle_arr (fun _ _ => ?_)) | (with_reducible refine xle_idx ?_) | (with_reducible refine xle_new G))
theorem xle_hbin (f : Int → Int → Int) (ok : Int → Int → Bool) : xLe (hbin f ok) := by
  intro call call' meths P b L L' bl len x y z go go' pc ls st ex n t c d C G K
  delta hbin
  repeat' (first | exact xle_f _ | exact G _ _ _ _ _ _ _ _ | exact xle_r _ | (with_reducible refine xle_c ?_ ?_) | (with_reducible refine xle_pop (fun _ _ _ _ => ?_)) | (with_reducible refine xle_look (fun _ _ => ?_) _) | (with_reducible refine xle_need (fun _ => ?_)) | (with_reducible refine xle_cond ?_ ?_) | (with_reducible refine xle_obj (fun _ => ?_)) | (with_reducible refine xle_val (fun _ _ => ?_)) | (with_reducible refine xle_arr (fun _ _ => ?_)) | (with_reducible refine xle_idx ?_) | (with_reducible refine xle_new G))
theorem xle_hand  : xLe hand := by
  intro call call' meths P b L L' bl len x y z go go' pc ls st ex n t c d C G K
  delta hand
  repeat' (first | exact xle_f _ | exact G _ _ _ _ _ _ _ _ | exact xle_r _ | (with_reducible refine xle_c ?_ ?_) | (with_reducible refine xle_pop (fun _ _ _ _ => ?_)) | (with_reducible refine xle_look (fun _ _ => ?_) _) | (with_reducible refine xle_need (fun _ => ?_)) | (with_reducible refine xle_cond ?_ ?_) | (with_reducible refine xle_obj (fun _ => ?_)) | (with_reducible refine xle_val (fun _ _ => ?_)) | (with_reducible refine xle_arr (fun _ _ => ?_)) | (with_reducible refine xle_idx ?_) | (with_reducible refine xle_new G))
theorem xle_hconv (f : Nat → Nat) (ok : Nat → Int → Bool) : xLe (hconv f ok) := by
  intro call call' meths P b L L' bl len x y z go go' pc ls st ex n t c d C G K
  delta hconv
  repeat' (first | exact xle_f _ | exact G _ _ _ _ _ _ _ _ | exact xle_r _ | (with_reducible refine xle_c ?_ ?_) | (with_reducible refine xle_pop (fun _ _ _ _ => ?_)) | (with_reducible refine xle_look (fun _ _ => ?_) _) | (with_reducible refine xle_need (fun _ => ?_)) | (with_reducible refine xle_cond ?_ ?_) | (with_reducible refine xle_obj (fun _ => ?_)) | (with_reducible refine xle_val (fun _ _ => ?_)) | (with_reducible refine xle_arr (fun _ _ => ?_)) | (with_reducible refine xle_idx ?_) | (with_reducible refine xle_new G))
theorem xle_hlcmp  : xLe hlcmp := by
  intro call call' meths P b L L' bl len x y z go go' pc ls st ex n t c d C G K
  delta hlcmp
  repeat' (first | exact xle_f _ | exact G _ _ _ _ _ _ _ _ | exact xle_r _ | (with_reducible refine xle_c ?_ ?_) | (with_reducible refine xle_pop (fun _ _ _ _ => ?_)) | (with_reducible refine xle_look (fun _ _ => ?_) _) | (with_reducible refine xle_need (fun _ => ?_)) | (with_reducible refine xle_cond ?_ ?_) | (with_reducible refine xle_obj (fun _ => ?_)) | (with_reducible refine xle_val (fun _ _ => ?_)) | (with_reducible refine xle_arr (fun _ _ => ?_)) | (with_reducible refine xle_idx ?_) | (with_reducible refine xle_new G))
theorem xle_hdup  : xLe hdup := by
  intro call call' meths P b L L' bl len x y z go go' pc ls st ex n t c d C G K
  delta hdup
  repeat' (first | exact xle_f _ | exact G _ _ _ _ _ _ _ _ | exact xle_r _ | (with_reducible refine xle_c ?_ ?_) | (with_reducible refine xle_pop (fun _ _ _ _ => ?_)) | (with_reducible refine xle_look (fun _ _ => ?_) _) | (with_reducible refine xle_need (fun _ => ?_)) | (with_reducible refine xle_cond ?_ ?_) | (with_reducible refine xle_obj (fun _ => ?_)) | (with_reducible refine xle_val (fun _ _ => ?_)) | (with_reducible refine xle_arr (fun _ _ => ?_)) | (with_reducible refine xle_idx ?_) | (with_reducible refine xle_new G))
theorem xle_hpop  : xLe hpop := by
  intro call call' meths P b L L' bl len x y z go go' pc ls st ex n t c d C G K
  delta hpop
  repeat' (first | exact xle_f _ | exact G _ _ _ _ _ _ _ _ | exact xle_r _ | (with_reducible refine xle_c ?_ ?_) | (with_reducible refine xle_pop (fun _ _ _ _ => ?_)) | (with_reducible refine xle_look (fun _ _ => ?_) _) | (with_reducible refine xle_need (fun _ => ?_)) | (with_reducible refine xle_cond ?_ ?_) | (with_reducible refine xle_obj (fun _ => ?_)) | (with_reducible refine xle_val (fun _ _ => ?_)) | (with_reducible refine xle_arr (fun _ _ => ?_)) | (with_reducible refine xle_idx ?_) | (with_reducible refine xle_new G))
theorem xle_hif (k : ClassFile.Cond) : xLe (hif k) := by
  intro call call' meths P b L L' bl len x y z go go' pc ls st ex n t c d C G K
  delta hif
  repeat' (first | exact xle_f _ | exact G _ _ _ _ _ _ _ _ | exact xle_r _ | (with_reducible refine xle_c ?_ ?_) | (with_reducible refine xle_pop (fun _ _ _ _ => ?_)) | (with_reducible refine xle_look (fun _ _ => ?_) _) | (with_reducible refine xle_need (fun _ => ?_)) | (with_reducible refine xle_cond ?_ ?_) | (with_reducible refine xle_obj (fun _ => ?_)) | (with_reducible refine xle_val (fun _ _ => ?_)) | (with_reducible refine xle_arr (fun _ _ => ?_)) | (with_reducible refine xle_idx ?_) | (with_reducible refine xle_new G))
theorem xle_hicmp (k : ClassFile.Cond) : xLe (hicmp k) := by
  intro call call' meths P b L L' bl len x y z go go' pc ls st ex n t c d C G K
  delta hicmp
  repeat' (first | exact xle_f _ | exact G _ _ _ _ _ _ _ _ | exact xle_r _ | (with_reducible refine xle_c ?_ ?_) | (with_reducible refine xle_pop (fun _ _ _ _ => ?_)) | (with_reducible refine xle_look (fun _ _ => ?_) _) | (with_reducible refine xle_need (fun _ => ?_)) | (with_reducible refine xle_cond ?_ ?_) | (with_reducible refine xle_obj (fun _ => ?_)) | (with_reducible refine xle_val (fun _ _ => ?_)) | (with_reducible refine xle_arr (fun _ _ => ?_)) | (with_reducible refine xle_idx ?_) | (with_reducible refine xle_new G))
theorem xle_hgoto  : xLe hgoto := by
  intro call call' meths P b L L' bl len x y z go go' pc ls st ex n t c d C G K
  delta hgoto
  repeat' (first | exact xle_f _ | exact G _ _ _ _ _ _ _ _ | exact xle_r _ | (with_reducible refine xle_c ?_ ?_) | (with_reducible refine xle_pop (fun _ _ _ _ => ?_)) | (with_reducible refine xle_look (fun _ _ => ?_) _) | (with_reducible refine xle_need (fun _ => ?_)) | (with_reducible refine xle_cond ?_ ?_) | (with_reducible refine xle_obj (fun _ => ?_)) | (with_reducible refine xle_val (fun _ _ => ?_)) | (with_reducible refine xle_arr (fun _ _ => ?_)) | (with_reducible refine xle_idx ?_) | (with_reducible refine xle_new G))
theorem xle_hnull (w : Bool) : xLe (hnull w) := by
  intro call call' meths P b L L' bl len x y z go go' pc ls st ex n t c d C G K
  delta hnull
  repeat' (first | exact xle_f _ | exact G _ _ _ _ _ _ _ _ | exact xle_r _ | (with_reducible refine xle_c ?_ ?_) | (with_reducible refine xle_pop (fun _ _ _ _ => ?_)) | (with_reducible refine xle_look (fun _ _ => ?_) _) | (with_reducible refine xle_need (fun _ => ?_)) | (with_reducible refine xle_cond ?_ ?_) | (with_reducible refine xle_obj (fun _ => ?_)) | (with_reducible refine xle_val (fun _ _ => ?_)) | (with_reducible refine xle_arr (fun _ _ => ?_)) | (with_reducible refine xle_idx ?_) | (with_reducible refine xle_new G))
theorem xle_hswitch (dflt lo hi : Int) (offs : List Int) : xLe (hswitch dflt lo hi offs) := by
  intro call call' meths P b L L' bl len x y z go go' pc ls st ex n t c d C G K
  delta hswitch
  repeat' (first | exact xle_f _ | exact G _ _ _ _ _ _ _ _ | exact xle_r _ | (with_reducible refine xle_c ?_ ?_) | (with_reducible refine xle_pop (fun _ _ _ _ => ?_)) | (with_reducible refine xle_look (fun _ _ => ?_) _) | (with_reducible refine xle_need (fun _ => ?_)) | (with_reducible refine xle_cond ?_ ?_) | (with_reducible refine xle_obj (fun _ => ?_)) | (with_reducible refine xle_val (fun _ _ => ?_)) | (with_reducible refine xle_arr (fun _ _ => ?_)) | (with_reducible refine xle_idx ?_) | (with_reducible refine xle_new G))
theorem xle_hget  : xLe hget := by
  intro call call' meths P b L L' bl len x y z go go' pc ls st ex n t c d C G K
  delta hget
  repeat' (first | exact xle_f _ | exact G _ _ _ _ _ _ _ _ | exact xle_r _ | (with_reducible refine xle_c ?_ ?_) | (with_reducible refine xle_pop (fun _ _ _ _ => ?_)) | (with_reducible refine xle_look (fun _ _ => ?_) _) | (with_reducible refine xle_need (fun _ => ?_)) | (with_reducible refine xle_cond ?_ ?_) | (with_reducible refine xle_obj (fun _ => ?_)) | (with_reducible refine xle_val (fun _ _ => ?_)) | (with_reducible refine xle_arr (fun _ _ => ?_)) | (with_reducible refine xle_idx ?_) | (with_reducible refine xle_new G))
theorem xle_hputf  : xLe hputf := by
  intro call call' meths P b L L' bl len x y z go go' pc ls st ex n t c d C G K
  delta hputf
  repeat' (first | exact xle_f _ | exact G _ _ _ _ _ _ _ _ | exact xle_r _ | (with_reducible refine xle_c ?_ ?_) | (with_reducible refine xle_pop (fun _ _ _ _ => ?_)) | (with_reducible refine xle_look (fun _ _ => ?_) _) | (with_reducible refine xle_need (fun _ => ?_)) | (with_reducible refine xle_cond ?_ ?_) | (with_reducible refine xle_obj (fun _ => ?_)) | (with_reducible refine xle_val (fun _ _ => ?_)) | (with_reducible refine xle_arr (fun _ _ => ?_)) | (with_reducible refine xle_idx ?_) | (with_reducible refine xle_new G))
theorem xle_hnewa  : xLe hnewa := by
  intro call call' meths P b L L' bl len x y z go go' pc ls st ex n t c d C G K
  delta hnewa
  repeat' (first | exact xle_f _ | exact G _ _ _ _ _ _ _ _ | exact xle_r _ | (with_reducible refine xle_c ?_ ?_) | (with_reducible refine xle_pop (fun _ _ _ _ => ?_)) | (with_reducible refine xle_look (fun _ _ => ?_) _) | (with_reducible refine xle_need (fun _ => ?_)) | (with_reducible refine xle_cond ?_ ?_) | (with_reducible refine xle_obj (fun _ => ?_)) | (with_reducible refine xle_val (fun _ _ => ?_)) | (with_reducible refine xle_arr (fun _ _ => ?_)) | (with_reducible refine xle_idx ?_) | (with_reducible refine xle_new G))
theorem xle_hast (lo hi : Nat) : xLe (hast lo hi) := by
  intro call call' meths P b L L' bl len x y z go go' pc ls st ex n t c d C G K
  delta hast
  repeat' (first | exact xle_f _ | exact G _ _ _ _ _ _ _ _ | exact xle_r _ | (with_reducible refine xle_c ?_ ?_) | (with_reducible refine xle_pop (fun _ _ _ _ => ?_)) | (with_reducible refine xle_look (fun _ _ => ?_) _) | (with_reducible refine xle_need (fun _ => ?_)) | (with_reducible refine xle_cond ?_ ?_) | (with_reducible refine xle_obj (fun _ => ?_)) | (with_reducible refine xle_val (fun _ _ => ?_)) | (with_reducible refine xle_arr (fun _ _ => ?_)) | (with_reducible refine xle_idx ?_) | (with_reducible refine xle_new G))
theorem xle_hret (k : Nat) : xLe (hret k) := by
  intro call call' meths P b L L' bl len x y z go go' pc ls st ex n t c d C G K
  delta hret
  repeat' (first | exact xle_f _ | exact G _ _ _ _ _ _ _ _ | exact xle_r _ | (with_reducible refine xle_c ?_ ?_) | (with_reducible refine xle_pop (fun _ _ _ _ => ?_)) | (with_reducible refine xle_look (fun _ _ => ?_) _) | (with_reducible refine xle_need (fun _ => ?_)) | (with_reducible refine xle_cond ?_ ?_) | (with_reducible refine xle_obj (fun _ => ?_)) | (with_reducible refine xle_val (fun _ _ => ?_)) | (with_reducible refine xle_arr (fun _ _ => ?_)) | (with_reducible refine xle_idx ?_) | (with_reducible refine xle_new G))
theorem xle_hnew  : xLe hnew := by
  intro call call' meths P b L L' bl len x y z go go' pc ls st ex n t c d C G K
  delta hnew
  repeat' (first | exact xle_f _ | exact G _ _ _ _ _ _ _ _ | exact xle_r _ | (with_reducible refine xle_c ?_ ?_) | (with_reducible refine xle_pop (fun _ _ _ _ => ?_)) | (with_reducible refine xle_look (fun _ _ => ?_) _) | (with_reducible refine xle_need (fun _ => ?_)) | (with_reducible refine xle_cond ?_ ?_) | (with_reducible refine xle_obj (fun _ => ?_)) | (with_reducible refine xle_val (fun _ _ => ?_)) | (with_reducible refine xle_arr (fun _ _ => ?_)) | (with_reducible refine xle_idx ?_) | (with_reducible refine xle_new G))
theorem xle_hbad  : xLe hbad := by
  intro call call' meths P b L L' bl len x y z go go' pc ls st ex n t c d C G K
  delta hbad
  repeat' (first | exact xle_f _ | exact G _ _ _ _ _ _ _ _ | exact xle_r _ | (with_reducible refine xle_c ?_ ?_) | (with_reducible refine xle_pop (fun _ _ _ _ => ?_)) | (with_reducible refine xle_look (fun _ _ => ?_) _) | (with_reducible refine xle_need (fun _ => ?_)) | (with_reducible refine xle_cond ?_ ?_) | (with_reducible refine xle_obj (fun _ => ?_)) | (with_reducible refine xle_val (fun _ _ => ?_)) | (with_reducible refine xle_arr (fun _ _ => ?_)) | (with_reducible refine xle_idx ?_) | (with_reducible refine xle_new G))
theorem xle_halen : xLe halen := by
  intro call call' meths P b L L' bl len x y z go go' pc ls st ex n t c d C G K
  refine xle_pop fun a z s e => ?_
  rw [e] at K
  rw [(yok_1 K).1]
  exact xle_arr fun _ _ => G _ _ _ _ _ _ _ _
theorem xle_hald (lo hi : Nat) : xLe (hald lo hi) := by
  intro call call' meths P b L L' bl len x y z go go' pc ls st ex n t c d C G K
  refine xle_pop fun u w s e => xle_pop fun a z s' e' => xle_need fun x => xle_idx ?_
  rw [e] at K
  have K := (yok_1 K).2
  rw [e'] at K
  rw [(yok_1 K).1]
  exact xle_arr fun _ _ => xle_val fun _ _ => xle_c (G _ _ _ _ _ _ _ _) (xle_r _)
theorem xle_hcalls : xLe hcalls := by
  intro call call' meths P b L L' bl len x y z go go' pc ls st ex n t c d C G K
  exact xle_take (fun _ _ => xle_room fun _ _ => xle_back (C _ _ _ _ _) G) _ _ _
theorem xle_hcallv : xLe hcallv := by
  intro call call' meths P b L L' bl len x y z go go' pc ls st ex n t c d C G K
  exact xle_take (fun _ _ => xle_pop fun _ _ _ _ => xle_room fun _ _ => xle_c (xle_obj fun _ => xle_back (C _ _ _ _ _) G) (xle_c (xle_back (C _ _ _ _ _) G) (xle_r _))) _ _ _
theorem xle_hspec : xLe hspec := by
  intro call call' meths P b L L' bl len x y z go go' pc ls st ex n t c d C G K
  exact xle_c (xle_pop fun _ _ _ _ => xle_c (xle_c (G _ _ _ _ _ _ _ _) (xle_r _)) (xle_r _)) (xle_hcallv call call' meths P b L L' bl len x y z go go' pc ls st ex n t c d C G K)
theorem xle_hand1 (ins : Instr) : xLe (xhand ins) := by
  cases ins
  case aconst_null => exact xle_hpush _ _
  case iconst => exact xle_hpush _ _
  case bipush => exact xle_hpush _ _
  case sipush => exact xle_hpush _ _
  case lconst => exact xle_hpush _ _
  case dconst => exact xle_hpush _ _
  case fconst n =>
    show xLe (cond (Nat.beq n.val 0) (hpush 11 (Int.ofNat 0)) hbad)
    cases Nat.beq n.val 0
    · exact xle_hbad
    · exact xle_hpush _ _
  case iload_n => exact xle_hload _ _
  case iload => exact xle_hload _ _
  case lload_n => exact xle_hload _ _
  case lload => exact xle_hload _ _
  case dload_n => exact xle_hload _ _
  case dload => exact xle_hload _ _
  case aload_n => exact xle_hloada _
  case aload => exact xle_hloada _
  case istore_n => exact xle_hstore _ _
  case istore => exact xle_hstore _ _
  case lstore_n => exact xle_hstore _ _
  case lstore => exact xle_hstore _ _
  case dstore_n => exact xle_hstore _ _
  case dstore => exact xle_hstore _ _
  case fstore_n => exact xle_hstore _ _
  case fstore => exact xle_hstore _ _
  case astore_n => exact xle_hstorea _
  case astore => exact xle_hstorea _
  case iinc => exact xle_hiinc _ _
  case iadd => exact xle_hbin _ _
  case isub => exact xle_hbin _ _
  case imul => exact xle_hbin _ _
  case idiv => exact xle_hbin _ _
  case iand => exact xle_hand
  case i2l => exact xle_hconv _ _
  case l2i => exact xle_hconv _ _
  case i2c => exact xle_hconv _ _
  case i2d => exact xle_hconv _ _
  case l2d => exact xle_hconv _ _
  case lcmp => exact xle_hlcmp
  case dup => exact xle_hdup
  case pop => exact xle_hpop
  case ifCond => exact xle_hif _
  case if_icmp => exact xle_hicmp _
  case goto => exact xle_hgoto
  case ifnull => exact xle_hnull _
  case ifnonnull => exact xle_hnull _
  case tableswitch => exact xle_hswitch _ _ _ _
  case getfield => exact xle_hget
  case putfield => exact xle_hputf
  case new => exact xle_hnew
  case newarray => exact xle_hnewa
  case anewarray => exact xle_hnewa
  case arraylength => exact xle_halen
  case iaload => exact xle_hald _ _
  case aaload => exact xle_hald _ _
  case iastore => exact xle_hast _ _
  case aastore => exact xle_hast _ _
  case invokestatic => exact xle_hcalls
  case invokevirtual => exact xle_hcallv
  case invokespecial => exact xle_hspec
  case ireturn => exact xle_hret _
  case lreturn => exact xle_hret _
  case dreturn => exact xle_hret _
  case freturn => exact xle_hret _
  case areturn => exact xle_hret _
  case return_ => exact xle_hret _
  all_goals exact xle_hbad
/-- a step -/
theorem xle_step {call call' : xA} {meths : Nat → xQ} {P : xP} {b L L' : Nat} {bl : List (Int × Int)} {go go' : xG} (hP : ∀ e ∈ tleaves P.1.2 [], e = xno ∨ ∃ ins : Instr, e.1 = xhand ins) (C : ∀ i as ex n t, xle (call i as ex n t) (call' i as ex n t))
    (G : ∀ pc ls st ex n t c d, xle (go pc ls st ex n t c d) (go' pc ls st ex n t c d)) (pc : Nat) (ls : xL) (st : List xV) (ex : Bool) (n : Nat) (t : xT) (c d : Nat) : xle (ystep call meths P (b, L, bl) go pc ls st ex n t c d) (xstep call' meths P (b, L', bl) go' pc ls st ex n t c d) := by
  show xle (cond (yok st) (xstep call meths P (b, L, bl) go pc ls st ex n t c d) xfail) (xstep call' meths P (b, L', bl) go' pc ls st ex n t c d)
  cases K : yok st with
  | false => exact xle_f _
  | true =>
    show xle (xstep call meths P (b, L, bl) go pc ls st ex n t c d) (xstep call' meths P (b, L', bl) go' pc ls st ex n t c d)
    refine xle_force fun pc => ?_
    have hm := tget_mem xno P.1.1.1 P.1.2 pc
    show xle ((fun e : xEn => cond (Nat.beq pc e.2.1) (e.1 call meths P.2 (b, L, bl) e.2.2.1 e.2.2.2.1 e.2.2.2.2.1 e.2.2.2.2.2 go pc ls st ex n t c d) xfail) (tget xno P.1.1.1 P.1.2 pc)) ((fun e : xEn => cond (Nat.beq pc e.2.1) (e.1 call' meths P.2 (b, L', bl) e.2.2.1 e.2.2.2.1 e.2.2.2.2.1 e.2.2.2.2.2 go' pc ls st ex n t c d) xfail) (tget xno P.1.1.1 P.1.2 pc))
    revert hm
    generalize tget xno P.1.1.1 P.1.2 pc = e9
    intro hm
    have h9 : xLe e9.1 := by
      rcases hm with hm | hm
      · subst hm
        exact xle_hbad
      · rcases hP e9 hm with h | ⟨ins, h⟩
        · subst h
          exact xle_hbad
        · rw [h]
          exact xle_hand1 ins
    exact xle_c (h9 call call' meths P.2 b L L' bl _ _ _ _ go go' pc ls st ex n t c d C G K) (xle_r _)
theorem xle_call {b L L' : Nat} {bl : List (Int × Int)} {fuel : Nat} : ∀ (d i : Nat) (as : List xV) (ex : Bool) (n : Nat) (t : xT), xle (ycall xmeths (b, L, bl) fuel d i as ex n t) (xcall xmeths (b, L', bl) fuel d i as ex n t) := by
  intro d
  induction d with
  | zero => intro i as ex n t; exact xle_f _
  | succ d ih =>
    intro i as ex n t
    show xle (cond (Nat.blt i 131) (cond (Nat.ble (xsum as) (xmeths i).1.1.2) (yloop (ycall xmeths (b, L, bl) fuel d) (fun j => (xmeths j).2) (xmeths i) (b, L, bl) fuel 0 (xargs as 0) [] ex n t 0 0) xfail) xfail) (cond (Nat.ble (xsum as) (xmeths i).1.1.2) (xloop (xcall xmeths (b, L', bl) fuel d) (fun j => (xmeths j).2) (xmeths i) (b, L', bl) fuel 0 (xargs as 0) [] ex n t 0 0) xfail)
    cases hi : Nat.blt i 131 with
    | false => exact xle_f _
    | true =>
      have hi : i < 131 := Nat.le_of_ble_eq_true hi
      show xle (cond (Nat.ble (xsum as) (xmeths i).1.1.2) (yloop (ycall xmeths (b, L, bl) fuel d) (fun j => (xmeths j).2) (xmeths i) (b, L, bl) fuel 0 (xargs as 0) [] ex n t 0 0) xfail) (cond (Nat.ble (xsum as) (xmeths i).1.1.2) (xloop (xcall xmeths (b, L', bl) fuel d) (fun j => (xmeths j).2) (xmeths i) (b, L', bl) fuel 0 (xargs as 0) [] ex n t 0 0) xfail)
      refine xle_c ?_ (xle_r _)
      have hP : ∀ e ∈ tleaves (xmeths i).1.2 [], e = xno ∨ ∃ ins : Instr, e.1 = xhand ins := fun e he => (xtabs i hi e he).imp id (fun ⟨ins, _, h, _⟩ => ⟨ins, h⟩)
      have key : ∀ (f : Nat) (pc : Nat) (ls : xL) (st : List xV) (ex : Bool) (n : Nat) (t : xT) (c d9 : Nat), xle (yloop (ycall xmeths (b, L, bl) fuel d) (fun j => (xmeths j).2) (xmeths i) (b, L, bl) f pc ls st ex n t c d9) (xloop (xcall xmeths (b, L', bl) fuel d) (fun j => (xmeths j).2) (xmeths i) (b, L', bl) f pc ls st ex n t c d9) := by
        intro f
        induction f with
        | zero => intro pc ls st ex n t c d9; exact xle_f _
        | succ f ihf => exact xle_step hP ih ihf
      exact key fuel 0 (xargs as 0) [] ex n t 0 0
theorem xle_to {b L L' : Nat} {bl : List (Int × Int)} {fuel d stop : Nat} : ∀ (f pc : Nat) (ls : xL) (st : List xV) (ex : Bool) (n : Nat) (t : xT) (c d9 : Nat), xle (yto stop (ycall xmeths (b, L, bl) fuel d) xlaw (b, L, bl) f pc ls st ex n t c d9) (xto stop (xcall xmeths (b, L', bl) fuel d) xlaw (b, L', bl) f pc ls st ex n t c d9) := by
  intro f
  induction f with
  | zero => intro pc ls st ex n t c d9; exact xle_f _
  | succ f ihf =>
    intro pc ls st ex n t c d9
    exact xle_c (xle_r _) (xle_step (fun e he => (xt131 e he).imp id (fun ⟨ins, _, h, _⟩ => ⟨ins, h⟩)) (xle_call d) ihf pc ls st ex n t c d9)
noncomputable def zph : xO := yto 18 (ycall xmeths (32, 0, []) 100000 10) xlaw (32, 0, []) 100000 0 [(0, 10, Int.ofNat 0)] [] true 0 (.leaf (9, 0, [])) 0 0
def zlsq (ls : xL) : Bool := decide (ls = [(4, 2, Int.ofNat 0), (3, 1, Int.ofNat 854), (2, 2, Int.ofNat 0), (1, 1, Int.ofNat 0), (0, 10, Int.ofNat 0)])
noncomputable def zall (t : xT) : Bool := (List.range 855).all (fun k => zck k (tget (9, 0, []) 10 t k))
noncomputable def zgood (pc : Nat) (ls : xL) (st : List xV) (ex : Bool) (n : Nat) (t : xT) (c d : Nat) : Bool := Nat.beq pc 18 && (zlsq ls && (st.isEmpty && (ex && (Nat.beq n 855 && (Nat.beq c 855 && (Nat.beq d 5814 && zall t))))))
noncomputable def zchk : Bool := Prod.rec (fun k1 r => cond (Nat.beq k1 0) (xfS (k1, r) zgood) false) zph
set_option maxRecDepth 1000000 in
theorem zchk_ok : zchk = true := by decide +kernel
/-- the law to its loop's head, for each length of the script -/
theorem zph_ok (L : Nat) : ∃ t : xT, (∀ k, k < 855 → zck k (tget (9, 0, []) 10 t k) = true) ∧
    xto 18 (xcall xmeths (32, L, []) 100000 10) xlaw (32, L, []) 100000 0 [(0, 10, Int.ofNat 0)] [] true 0 (.leaf (9, 0, [])) 0 0 = (0, zph.2.1, zph.2.2.1, 18, [(4, 2, Int.ofNat 0), (3, 1, Int.ofNat 854), (2, 2, Int.ofNat 0), (1, 1, Int.ofNat 0), (0, 10, Int.ofNat 0)], [], true, 855, t, 855, 5814) := by
  have h := zchk_ok
  have hle : xle zph (xto 18 (xcall xmeths (32, L, []) 100000 10) xlaw (32, L, []) 100000 0 [(0, 10, Int.ofNat 0)] [] true 0 (.leaf (9, 0, [])) 0 0) := xle_to _ _ _ _ _ _ _ _ _
  revert h hle
  unfold zchk
  generalize zph = r
  obtain ⟨k1, v, y, pc, ls, st, ex, n, t, c, d⟩ := r
  intro h hle
  have h : cond (Nat.beq k1 0) (xfS (k1, v, y, pc, ls, st, ex, n, t, c, d) zgood) false = true := h
  cases e0 : Nat.beq k1 0 with
  | false => rw [e0] at h; cases h
  | true =>
    rw [e0] at h
    have h : xfS (k1, v, y, pc, ls, st, ex, n, t, c, d) zgood = true := h
    rw [xfS_eq] at h
    have h : (Nat.beq pc 18 && (zlsq ls && (st.isEmpty && (ex && (Nat.beq n 855 && (Nat.beq c 855 && (Nat.beq d 5814 && zall t))))))) = true := h
    simp only [Bool.and_eq_true] at h
    obtain ⟨h1, h2, h3, h4, h5, h6, h7, h8⟩ := h
    have e0 := Nat.eq_of_beq_eq_true e0
    have h1 := Nat.eq_of_beq_eq_true h1
    have h5 := Nat.eq_of_beq_eq_true h5
    have h6 := Nat.eq_of_beq_eq_true h6
    have h7 := Nat.eq_of_beq_eq_true h7
    have h2 := of_decide_eq_true h2
    have h3 : st = [] := List.isEmpty_iff.mp h3
    subst e0 h1 h5 h6 h7 h2 h3 h4
    refine ⟨t, fun k hk => List.all_eq_true.mp h8 k (List.mem_range.mpr hk), ?_⟩
    exact hle (Nat.zero_le 3)
