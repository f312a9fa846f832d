/-! what of doubles is no NaN -/
def zgd (d : FP.Core.Datum) : Prop := match d with
  | .nan => False
  | .inf _ => True
  | .fin _ c q => c < 2 ^ 53 ∧ q ≤ 971
theorem zfT64 : FP.Core.b64.tails = 2 ^ 52 := by decide +kernel
theorem zfE64 : FP.Core.b64.exps = 2 ^ 11 := by decide +kernel
theorem zqmin : FP.Core.b64.qmin = -1074 := by decide +kernel
theorem zqmax : FP.Core.b64.qmax = 971 := by decide +kernel
theorem zfP64 : FP.Core.b64.p = 53 := rfl
theorem zencF {f : FP.Core.Fmt} {s : Bool} {c : Nat} {q : Int} : FP.Core.encode f (.fin s c q) = if c < f.tails then FP.Core.assemble f s 0 c else FP.Core.assemble f s ((q - f.qmin).toNat + 1) (c - f.tails) := rfl
theorem zquoF {f : FP.Core.Fmt} {s t : Bool} {c d : Nat} {q r : Int} : FP.Core.quotient f (.fin s c q) (.fin t d r) = if d = 0 then (if c = 0 then .nan else .inf (s != t)) else FP.Core.roundRatio f (s != t) c d (q - r) := rfl
theorem zproFI {s t : Bool} {c : Nat} {q : Int} : FP.Core.exactProduct (.fin s c q) (.inf t) = if c = 0 then .nan else .inf (s != t) := rfl
theorem zproIF {s t : Bool} {d : Nat} {r : Int} : FP.Core.exactProduct (.inf s) (.fin t d r) = if d = 0 then .nan else .inf (s != t) := rfl
theorem zencg {d : FP.Core.Datum} (h : zgd d) : FP.Core.encode FP.Core.b64 d < 2 ^ 64 ∧ FP.Core.encode FP.Core.b64 d % 2 ^ 63 ≤ 2047 * 2 ^ 52 := by
  cases d with
  | nan => exact h.elim
  | inf s =>
    show FP.Core.assemble FP.Core.b64 s (FP.Core.b64.exps - 1) 0 < _ ∧ FP.Core.assemble FP.Core.b64 s (FP.Core.b64.exps - 1) 0 % _ ≤ _
    unfold FP.Core.assemble
    rw [zfT64, zfE64]
    cases s <;> decide
  | fin s c q =>
    obtain ⟨h1, h2⟩ := h
    rw [zencF]
    unfold FP.Core.assemble
    rw [zfT64, zfE64, zqmin]
    have hs : s.toNat ≤ 1 := by cases s <;> decide
    split
    · generalize s.toNat = t at hs
      omega
    · have h3 : (q - -1074).toNat ≤ 2045 := by omega
      generalize (q - -1074).toNat = e at h3
      generalize s.toNat = t at hs
      omega
theorem zn64_of {n : Nat} (h1 : n < 2 ^ 64) (h2 : n % 2 ^ 63 ≤ 2047 * 2 ^ 52) : vf_n64 (UInt64.ofNat n) := by
  unfold vf_n64
  rw [UInt64.le_iff_toNat_le, UInt64.toNat_and, UInt64.toNat_ofNat_of_lt' h1]
  have e : (0x7fffffffffffffff : UInt64).toNat = 2 ^ 63 - 1 := by decide
  rw [e, Nat.and_two_pow_sub_one_eq_mod]
  exact h2
theorem zn64_mod {x : UInt64} (h : vf_n64 x) : x.toNat % 2 ^ 63 ≤ 2047 * 2 ^ 52 := by
  unfold vf_n64 at h
  rw [UInt64.le_iff_toNat_le, UInt64.toNat_and] at h
  have e : (0x7fffffffffffffff : UInt64).toNat = 2 ^ 63 - 1 := by decide
  rw [e, Nat.and_two_pow_sub_one_eq_mod] at h
  exact h
theorem zn64_dec {x : UInt64} (h : vf_n64 x) : FP.Core.decode FP.Core.b64 x.toNat ≠ .nan := by
  have h := zn64_mod h
  have hx : x.toNat < 2 ^ 64 := x.toNat_lt
  generalize x.toNat = n at h hx
  unfold FP.Core.decode FP.Core.fieldE FP.Core.fieldT
  rw [zfT64, zfE64]
  split
  · split
    · exact fun q => by cases q
    · omega
  · split
    · exact fun q => by cases q
    · exact fun q => by cases q
theorem zenc64 {d : FP.Core.Datum} (h : zgd d) : vf_n64 (UInt64.ofNat (FP.Core.encode FP.Core.b64 d)) := zn64_of (zencg h).1 (zencg h).2
theorem zbnd {s : Bool} {c : Nat} {q : Int} (h : c < 2 ^ 53) : zgd (FP.Core.bound FP.Core.b64 s c q) := by
  unfold FP.Core.bound
  rw [zqmax]
  split
  · rename_i hq
    exact ⟨h, hq⟩
  · trivial
theorem zrr {s : Bool} {n d : Nat} {e : Int} : zgd (FP.Core.roundRatio FP.Core.b64 s n d e) := by
  unfold FP.Core.roundRatio
  split
  · exact ⟨by decide, by rw [zqmin]; decide⟩
  · unfold FP.Core.roundAt FP.Core.settle
    split
    · rename_i h
      exact zbnd h
    · exact zbnd (by rw [zfT64]; decide)
theorem zrnd {d : FP.Core.Datum} (h : d ≠ .nan) : zgd (FP.Core.round FP.Core.b64 d) := by
  cases d with
  | nan => exact absurd rfl h
  | inf s => trivial
  | fin s c q => exact zrr
theorem zquo {d e : FP.Core.Datum} (h : FP.Core.quotient FP.Core.b64 d e ≠ .nan) : zgd (FP.Core.quotient FP.Core.b64 d e) := by
  cases d with
  | nan => exact absurd rfl h
  | inf s =>
    cases e with
    | nan => exact absurd rfl h
    | inf t => exact absurd rfl h
    | fin t d r => trivial
  | fin s c q =>
    cases e with
    | nan => exact absurd rfl h
    | inf t => exact ⟨by decide, by rw [zqmin]; decide⟩
    | fin t d r =>
      rw [zquoF] at h ⊢
      split
      · rename_i h1
        rw [if_pos h1] at h
        split
        · rename_i h2
          rw [if_pos h2] at h
          exact absurd rfl h
        · trivial
      · exact zrr
abbrev zDat (x : UInt64) : FP.Core.Datum := FP.Core.decode FP.Core.b64 x.toNat
theorem zn_add {x y : UInt64} (h : FP.Core.exactSum (zDat x) (zDat y) ≠ .nan) : vf_n64 (FP.dadd x y) := zenc64 (zrnd h)
theorem zn_sub {x y : UInt64} (h : FP.Core.exactSum (zDat x) (FP.Core.negate (zDat y)) ≠ .nan) : vf_n64 (FP.dsub x y) := zenc64 (zrnd h)
theorem zn_mul {x y : UInt64} (h : FP.Core.exactProduct (zDat x) (zDat y) ≠ .nan) : vf_n64 (FP.dmul x y) := zenc64 (zrnd h)
theorem zn_div {x y : UInt64} (h : FP.Core.quotient FP.Core.b64 (zDat x) (zDat y) ≠ .nan) : vf_n64 (FP.ddiv x y) := zenc64 (zquo h)
theorem zn_i2d {x : Int32} : vf_n64 (FP.i2d x) := zenc64 (zrnd (fun q => by cases q))
theorem zn_l2d {x : Int64} : vf_n64 (FP.l2d x) := zenc64 (zrnd (fun q => by cases q))
theorem zn_0 : vf_n64 FP.dconst0 := by unfold vf_n64; decide +kernel
/-- a half -/
theorem zn_half {x : Int32} : vf_n64 (FP.ddiv (FP.i2d x) 4611686018427387904) := by
  refine zn_div ?_
  have e : zDat 4611686018427387904 = .fin false 4503599627370496 (-51) := by decide +kernel
  rw [e]
  have h := zn64_dec (zn_i2d (x := x))
  revert h
  show zDat (FP.i2d x) ≠ .nan → _
  generalize zDat (FP.i2d x) = d
  intro h
  cases d with
  | nan => exact absurd rfl h
  | inf s => exact fun q => by cases q
  | fin s c q =>
    rw [zquoF, if_neg (by decide)]
    intro q0
    have g := @zrr (s != false) c 4503599627370496 (q - -51)
    first
    | (rw [q0] at g; exact g)
    | (exact absurd q0 (fun e => by rw [e] at g; exact g))
/-! what isNoNumber asks -/
abbrev zGr : UInt64 := 9218868437227405311
def zinfB (x : UInt64) : Bool := decide (0 < Op.cmpValue (FP.dcmp x zGr) .l) || decide (Op.cmpValue (FP.dcmp x (FP.dneg zGr)) .g < 0)
def zposB (x : UInt64) : Bool := decide (0 < Op.cmpValue (FP.dcmp x FP.dconst0) .l)
def zzerB (x : UInt64) : Bool := decide (Op.cmpValue (FP.dcmp x FP.dconst0) .l = 0)
def zNoN (o : Int) (x y : UInt64) : Bool := if o ∈ ([43] : List Int) then (zinfB x && zinfB y) && !decide (zposB x = zposB y) else if o ∈ ([45] : List Int) then (zinfB x && zinfB y) && decide (zposB x = zposB y) else if o ∈ ([42] : List Int) then (zzerB x && zinfB y) || (zinfB x && zzerB y) else (zinfB x && zinfB y) || (zzerB x && zzerB y)
theorem zdGr : zDat zGr = .fin false 9007199254740991 971 := by decide +kernel
theorem zdGn : zDat (FP.dneg zGr) = .fin true 9007199254740991 971 := by decide +kernel
theorem zd00 : zDat FP.dconst0 = .fin false 0 (-1074) := by decide +kernel
theorem zdcmp_eq {x y : UInt64} : FP.dcmp x y = FP.Core.order (zDat x) (zDat y) := rfl
theorem zinf_t {x : UInt64} {s : Bool} (h : zDat x = .inf s) : zinfB x = true ∧ zposB x = !s := by
  unfold zinfB zposB
  rw [zdcmp_eq, zdcmp_eq, zdcmp_eq, h, zdGr, zdGn, zd00]
  cases s <;> decide
theorem zzer_t {x : UInt64} {s : Bool} {q : Int} (h : zDat x = .fin s 0 q) : zzerB x = true := by
  unfold zzerB
  rw [zdcmp_eq, h, zd00]
  have e : FP.Core.order (.fin s 0 q) (.fin false 0 (-1074)) = some (compare (FP.Core.signed s (FP.Core.inUnits 0 q (min q (-1074)))) (FP.Core.signed false (FP.Core.inUnits 0 (-1074) (min q (-1074))))) := rfl
  rw [e]
  unfold FP.Core.inUnits
  rw [Nat.zero_mul, Nat.zero_mul]
  cases s <;> decide
theorem zNoN_add {x y : UInt64} (hx : vf_n64 x) (hy : vf_n64 y) (h : zNoN 43 x y = false) : vf_n64 (FP.dadd x y) := by
  refine zn_add ?_
  have hx := zn64_dec hx
  have hy := zn64_dec hy
  have e : zNoN 43 x y = ((zinfB x && zinfB y) && !decide (zposB x = zposB y)) := rfl
  rw [e] at h
  cases h1 : zDat x with
  | nan => exact absurd h1 hx
  | fin s c q =>
    cases h2 : zDat y with
    | nan => exact absurd h2 hy
    | fin t d r => exact fun q => by cases q
    | inf t => exact fun q => by cases q
  | inf s =>
    cases h2 : zDat y with
    | nan => exact absurd h2 hy
    | fin t d r => exact fun q => by cases q
    | inf t =>
      rw [(zinf_t h1).1, (zinf_t h1).2, (zinf_t h2).1, (zinf_t h2).2] at h
      cases s <;> cases t <;> first | exact absurd h (by decide) | decide
theorem zNoN_sub {x y : UInt64} (hx : vf_n64 x) (hy : vf_n64 y) (h : zNoN 45 x y = false) : vf_n64 (FP.dsub x y) := by
  refine zn_sub ?_
  have hx := zn64_dec hx
  have hy := zn64_dec hy
  have e : zNoN 45 x y = ((zinfB x && zinfB y) && decide (zposB x = zposB y)) := rfl
  rw [e] at h
  cases h1 : zDat x with
  | nan => exact absurd h1 hx
  | fin s c q =>
    cases h2 : zDat y with
    | nan => exact absurd h2 hy
    | fin t d r => exact fun q => by cases q
    | inf t => exact fun q => by cases q
  | inf s =>
    cases h2 : zDat y with
    | nan => exact absurd h2 hy
    | fin t d r => exact fun q => by cases q
    | inf t =>
      rw [(zinf_t h1).1, (zinf_t h1).2, (zinf_t h2).1, (zinf_t h2).2] at h
      cases s <;> cases t <;> first | exact absurd h (by decide) | decide
theorem zNoN_mul {x y : UInt64} (hx : vf_n64 x) (hy : vf_n64 y) (h : zNoN 42 x y = false) : vf_n64 (FP.dmul x y) := by
  refine zn_mul ?_
  have hx := zn64_dec hx
  have hy := zn64_dec hy
  have e : zNoN 42 x y = ((zzerB x && zinfB y) || (zinfB x && zzerB y)) := rfl
  rw [e, Bool.or_eq_false_iff] at h
  cases h1 : zDat x with
  | nan => exact absurd h1 hx
  | fin s c q =>
    cases h2 : zDat y with
    | nan => exact absurd h2 hy
    | fin t d r => exact fun q => by cases q
    | inf t =>
      rw [zproFI]
      split
      · rename_i hc
        subst hc
        rw [zzer_t h1, (zinf_t h2).1] at h
        exact absurd h.1 (by decide)
      · exact fun q => by cases q
  | inf s =>
    cases h2 : zDat y with
    | nan => exact absurd h2 hy
    | fin t d r =>
      rw [zproIF]
      split
      · rename_i hc
        subst hc
        rw [zzer_t h2, (zinf_t h1).1] at h
        exact absurd h.2 (by decide)
      · exact fun q => by cases q
    | inf t => exact fun q => by cases q
theorem zNoN_div {o : Int} {x y : UInt64} (hx : vf_n64 x) (hy : vf_n64 y) (h1 : o ∉ ([43] : List Int)) (h2 : o ∉ ([45] : List Int)) (h3 : o ∉ ([42] : List Int)) (h : zNoN o x y = false) : vf_n64 (FP.ddiv x y) := by
  refine zn_div ?_
  have hx := zn64_dec hx
  have hy := zn64_dec hy
  unfold zNoN at h
  rw [if_neg h1, if_neg h2, if_neg h3, Bool.or_eq_false_iff] at h
  cases h1 : zDat x with
  | nan => exact absurd h1 hx
  | fin s c q =>
    cases h2 : zDat y with
    | nan => exact absurd h2 hy
    | fin t d r =>
      rw [zquoF]
      split
      · rename_i hd
        subst hd
        split
        · rename_i hc
          subst hc
          rw [zzer_t h1, zzer_t h2] at h
          exact absurd h.2 (by decide)
        · exact fun q => by cases q
      · intro e
        have g := @zrr (s != t) c d (q - r)
        rw [e] at g
        exact g
    | inf t => exact fun q => by cases q
  | inf s =>
    cases h2 : zDat y with
    | nan => exact absurd h2 hy
    | fin t d r => exact fun q => by cases q
    | inf t =>
      rw [(zinf_t h1).1, (zinf_t h2).1] at h
      exact absurd h.1 (by decide)
