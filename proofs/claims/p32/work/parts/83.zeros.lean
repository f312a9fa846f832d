/-! 1.0 through a zero is no NaN -/
theorem zcie {a b : Int} (h : compare a b = .eq) : a = b := by
  first
  | exact Std.LawfulEqCmp.eq_of_compare h
  | exact Std.compare_eq_iff_eq.mp h
theorem zcmp0 {n : Nat} (hn : n < 2 ^ 64) (h : FP.Core.cmp FP.Core.b64 n 0 = some .eq) : n = 0 ∨ n = 2 ^ 63 := by
  have hz : FP.Core.decode FP.Core.b64 0 = .fin false 0 FP.Core.b64.qmin := by decide +kernel
  have ht : FP.Core.b64.tails = 2 ^ 52 := by decide +kernel
  have hx : FP.Core.b64.exps = 2 ^ 11 := by decide +kernel
  unfold FP.Core.cmp at h
  rw [hz] at h
  unfold FP.Core.decode at h
  split at h
  · split at h
    · cases hs : FP.Core.fieldS FP.Core.b64 n with
      | true => rw [hs] at h; exact absurd h (by decide +kernel)
      | false => rw [hs] at h; exact absurd h (by decide +kernel)
    · exact absurd h (by unfold FP.Core.order; exact fun q => by cases q)
  · split at h
    · rename_i h1 h2
      unfold FP.Core.order at h
      injection h with h
      have h3 := zcie h
      have h4 : FP.Core.fieldT FP.Core.b64 n = 0 := by
        revert h3
        generalize FP.Core.fieldT FP.Core.b64 n = t
        cases FP.Core.fieldS FP.Core.b64 n <;> simp [FP.Core.signed, FP.Core.inUnits]
      unfold FP.Core.fieldT at h4
      unfold FP.Core.fieldE at h2
      rw [ht] at h4 h2
      rw [hx] at h2
      omega
    · rename_i h1 h2
      exfalso
      unfold FP.Core.order at h
      injection h with h
      have h3 := zcie h
      revert h3
      generalize (FP.Core.b64.qmin + ((FP.Core.fieldE FP.Core.b64 n : Int) - 1)) = q
      have hp : 0 < FP.Core.b64.tails + FP.Core.fieldT FP.Core.b64 n := by rw [ht]; omega
      revert hp
      generalize FP.Core.b64.tails + FP.Core.fieldT FP.Core.b64 n = t
      intro hp
      have hq : 0 < t * 2 ^ (q - min q FP.Core.b64.qmin).toNat := Nat.mul_pos hp (Nat.pow_pos (by decide))
      unfold FP.Core.inUnits
      rw [Nat.zero_mul]
      revert hq
      generalize t * 2 ^ (q - min q FP.Core.b64.qmin).toNat = c
      intro hq
      cases FP.Core.fieldS FP.Core.b64 n
      · show (c : Int) = 0 → False
        omega
      · show -(c : Int) = 0 → False
        omega
theorem zdeq0 {x : UInt64} (h : zdeq x FP.dconst0 = true) : x = 0 ∨ x = 0x8000000000000000 := by
  unfold zdeq at h
  rw [decide_eq_true_iff] at h
  have h1 : FP.Core.cmp FP.Core.b64 x.toNat 0 = some .eq := by
    have e : FP.dcmp x FP.dconst0 = FP.Core.cmp FP.Core.b64 x.toNat 0 := rfl
    rw [e] at h
    cases hq : FP.Core.cmp FP.Core.b64 x.toNat 0 with
    | none => rw [hq] at h; exact absurd h (by decide)
    | some o =>
      rw [hq] at h
      cases o with
      | lt => exact absurd h (by decide)
      | eq => rfl
      | gt => exact absurd h (by decide)
  rcases zcmp0 x.toNat_lt h1 with e | e
  · exact Or.inl (UInt64.toNat_inj.mp e)
  · exact Or.inr (UInt64.toNat_inj.mp e)
theorem zdz {x : UInt64} (h : zdeq x FP.dconst0 = true) : vf_n64 (FP.ddiv FP.dconst1 x) := by
  rcases zdeq0 h with rfl | rfl
  · unfold vf_n64
    decide +kernel
  · unfold vf_n64
    decide +kernel
