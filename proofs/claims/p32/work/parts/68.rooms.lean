/-! loops over rooms -/
def zsubl (ls' ls : List (Nat × zV)) : Prop := match ls' with
  | [] => True
  | q :: t => zlook ls q.1 = some q.2 ∧ zsubl t ls
theorem zsubl_ok {ls : List (Nat × zV)} : ∀ {ls' : List (Nat × zV)}, zsubl ls' ls → ∀ q ∈ ls', q ∈ ls
  | [], _, _, h => by cases h
  | x :: t, h, q, hq => by
    rcases List.mem_cons.mp hq with rfl | hq
    · exact zlook_mem h.1
    · exact zsubl_ok h.2 q hq
theorem z_ll {ω : zO} {mi pc a b : Nat} {ls : List (Nat × zV)} {st : List zV} {h : zH} (ls' : List (Nat × zV)) (hs : zsubl ls' ls) (kk : ZG ω mi pc ls' st h a b) : ZG ω mi pc ls st h a b := z_ls ls' (zsubl_ok hs) kk
theorem znx (i : Nat) : (some (zi (nI i + Int32.ofInt (Int.ofNat 1))) : Option zV) = some (zi (nI (i + 1))) := congrArg (fun x => some (zi x)) (nI_1 i)
theorem zin {i n : Nat} (hi : i < n) (hn : n < 2 ^ 31) : vp_in (nI i) n := nI_in hi hn
theorem zclamp {i n : Nat} (hi : i < n) (hn : n < 2 ^ 31) : (nI i).toNatClampNeg = i := nI_clamp (by omega)
def zfnd (h : zH) (n : Int32) : Nat → Nat → Option Nat
  | 0, _ => none
  | m + 1, i => if ¬ n < 0 ∧ h.1 (30 + 5 * i) 0 = n then some (30 + 5 * i) else zfnd h n m (i + 1)
def zroomR {R : Nat → Nat → Option Nat} (hF : zFix R) {i : Nat} (hi : i < 60) : R 4 i = some (30 + 5 * i) := (hF.2.2.2.2.2.1 i hi).1
set_option maxHeartbeats 4000000 in
theorem l_find {ω : zO} (C : zX ω 18) {n : Int32} {h : zH} (hF : zFix h.2.2.2) : ∀ m i, i + m = 60 → zER ω (some (zr (zfnd h n m i))) h 0 0 → ZG ω 18 11 [(4, zi (nI i)), (3, zi (nI 60)), (2, zr (some 4)), (1, zi n)] [] h 0 0 := by
  intro m
  induction m with
  | zero =>
    intro i hi he
    obtain rfl : i = 60 := by omega
    refine z_iload C rfl rfl ?_
    refine z_iloadn C rfl rfl ?_
    refine z_icmp C rfl (fun hc => ?_) (fun hc => absurd (Int32.le_refl _) hc)
    refine z_null C rfl ?_
    exact z_areturn C rfl he ⟨Nat.le_refl _, Nat.le_refl _⟩ rfl
  | succ m ih =>
    intro i hi he
    have hi60 : i < 60 := by omega
    refine z_iload C rfl rfl ?_
    refine z_iloadn C rfl rfl ?_
    refine z_icmp C rfl (fun hc => absurd hc (nI_ge hi60 (by decide))) (fun hc => ?_)
    refine z_aloadn C rfl rfl ?_
    refine z_iload C rfl rfl ?_
    refine z_aalds C rfl zS_4 (by decide) (by decide) (zin hi60 (by decide)) (by rw [zclamp hi60 (by decide)]; exact zroomR hF hi60) ?_
    refine z_astore C rfl ?_
    refine z_iloadn C rfl rfl ?_
    refine z_if C rfl (fun hc1 => ?_) (fun hc1 => ?_)
    · skip
      skip
      refine z_iinc C rfl rfl ?_
      refine z_goto C rfl ?_
      exact z_ll [(4, zi (nI (i + 1))), (3, zi (nI 60)), (2, zr (some 4)), (1, zi n)] ⟨znx i, rfl, rfl, rfl, trivial⟩ (ih (i + 1) (by omega) (zER_eq he (by simp_all [zfnd, xCmp]) rfl))
    · skip
      skip
      refine z_aload C rfl rfl ?_
      refine z_geti C rfl (zS_thing i hi60) rfl ?_
      refine z_iloadn C rfl rfl ?_
      refine z_icmp C rfl (fun hc2 => ?_) (fun hc2 => ?_)
      · skip
        skip
        refine z_iinc C rfl rfl ?_
        refine z_goto C rfl ?_
        exact z_ll [(4, zi (nI (i + 1))), (3, zi (nI 60)), (2, zr (some 4)), (1, zi n)] ⟨znx i, rfl, rfl, rfl, trivial⟩ (ih (i + 1) (by omega) (zER_eq he (by simp_all [zfnd, xCmp]) rfl))
      · skip
        skip
        refine z_aload C rfl rfl ?_
        exact z_areturn C rfl (zER_eq he (by simp_all [zfnd, xCmp]) rfl) ⟨Nat.le_refl _, Nat.le_refl _⟩ rfl
set_option maxHeartbeats 4000000 in
set_option maxRecDepth 20000 in
theorem c_find {κ : zK} (hκ : zKg κ) {n : Int32} (h : zH) (hF : zFix h.2.2.2) : zRet κ 18 [zr (some 2), zi n] h (some (zr (zfnd h n 60 0))) h 0 0 := by
  refine zRet_of hκ (by decide) (by decide +kernel) (Nat.le_of_ble_eq_true rfl) fun ω C hK he => ?_
  refine z_aloadn C rfl rfl ?_
  refine z_gets C rfl zS_2 rfl hF.2.2.1.2.1 ?_
  refine z_astoren C rfl ?_
  refine z_aloadn C rfl rfl ?_
  refine z_alen C rfl zS_4 (by decide) ?_
  refine z_istoren C rfl ?_
  refine z_iconst C rfl ?_
  refine z_istore C rfl ?_
  exact z_ll [(4, zi (nI 0)), (3, zi (nI 60)), (2, zr (some 4)), (1, zi n)] ⟨rfl, rfl, rfl, rfl, trivial⟩ (l_find C hF 60 0 rfl he)

