/-! fields and arrays over a heap of numbers -/
section ZH
variable {ω : zO} {mi pc a b : Nat} {ls : List (Nat × zV)} {st : List zV} {h : zH}
theorem zS_lt {k x y n : Nat} (hS : zS k = (x, y, n)) (h9 : x ≠ 9) : k < zN := by
  rcases Nat.lt_or_ge k zN with hk | hk
  · exact hk
  · rw [zS_out hk] at hS
    exact absurd (congrArg Prod.fst hS).symm h9
theorem zent {ca : Nat → ClassId} {ρ : xE} {k ci n : Nat} (hS : zS k = (0, ci, n)) : (zW ca ρ h)[k]? = some (ρ.1 + k, .inr (ci, (List.range n).map (fun j => zval ρ h (zF ci j) k j))) := by
  rw [zW_at (zS_lt hS (by decide))]
  unfold zC
  rw [hS]
  rfl
theorem zent1 {ca : Nat → ClassId} {ρ : xE} {k ty n : Nat} (hS : zS k = (1, ty, n)) : (zW ca ρ h)[k]? = some (ρ.1 + k, .inl (ca ty, n, zarr ρ h ty k)) := by
  rw [zW_at (zS_lt hS (by decide))]
  unfold zC
  rw [hS]
  rfl
theorem zslot {ρ : xE} {ci k j n : Nat} (hj : j < n) : ((List.range n).map (fun j => zval ρ h (zF ci j) k j))[j]? = some (zval ρ h (zF ci j) k j) := by
  rw [List.getElem?_map, List.getElem?_range hj]
  rfl
theorem z_get (C : zX ω mi) {index k ci y iz alt n : Nat} {ps : List Nat} (ht : zat mi pc = some (.getfield index, (pc, 3, ci, y, iz), alt, ps)) (hS : zS k = (0, ci, n)) {v : zV} (hv : y < n → zval (kρ (oK ω)) h (zF ci y) k y = zD (kρ (oK ω)) v) (kk : ZG ω mi (pc + 3) ls (v :: st) h a b) : ZG ω mi pc ls (zr (some k) :: st) h a b := by
  obtain ⟨hd, hw, hE⟩ := zok C ht
  obtain ⟨⟨hx, hb, hml, hown, hnm⟩, hts, ⟨hWd, hX, hbl, hs0⟩, hi, hRf, hRl⟩ := C
  have hE3 : (decide (3 = 3) && (decide (ci < 11) && (decide (y < xcN ci) && decide ((xcT ci y).1 = xcC ci)))) = true := hE
  simp only [Bool.and_eq_true, decide_eq_true_eq] at hE3
  obtain ⟨-, hci, hk, href⟩ := hE3
  obtain ⟨q1, q2, q3, q4, q5⟩ := xfacts (ρ := kρ (oK ω)) hci
  have hnn : n = xcN ci := zS_obj hS
  subst hnn
  have hwd := hw _ (show xwfl alt (xY mi).cls index ci y ∈ xwords (xY mi).cls (.getfield index) ci y iz alt from List.mem_cons_self)
  unfold xwfl at hwd
  intro H locs lsA hR hL
  have hk2 := kk H locs lsA hR hL
  rw [List.map_cons, ← hv hk] at hk2
  by_cases h0 : alt = 0
  · rw [if_pos h0] at hwd
    exact va_get hx hb hts q2 hown hWd.1 hR.1 k (zent hS) q1 y hk (hts _ (xgw_of hwd.1 rfl)) (fun x hx => by rw [href] at hx; exact hx) (zslot hk) hd hk2
  · rw [if_neg h0] at hwd
    exact va_getN hx hb hts q2 hown hWd.1 hR.1 k (zent hS) q1 y hk (va_Nw.use rfl (hWd.2.1 _ hwd.1 rfl)) (fun x hx => by rw [href] at hx; exact hx) (zslot hk) hd hk2
theorem zvalI {ρ : xE} {ty k j : Nat} (hF : Nat.ble ty 2 = true) : zval ρ h ty k j = zD ρ (zi (h.1 k j)) := by
  match ty, hF with
  | 0, _ => rfl
  | 1, _ => rfl
  | 2, _ => rfl
theorem z_geti (C : zX ω mi) {index k ci y iz alt n : Nat} {ps : List Nat} (ht : zat mi pc = some (.getfield index, (pc, 3, ci, y, iz), alt, ps)) (hS : zS k = (0, ci, n)) (hF : Nat.ble (zF ci y) 2 = true) (kk : ZG ω mi (pc + 3) ls (zi (h.1 k y) :: st) h a b) : ZG ω mi pc ls (zr (some k) :: st) h a b := z_get C ht hS (fun _ => zvalI hF) kk
theorem z_getj (C : zX ω mi) {index k ci y iz alt n : Nat} {ps : List Nat} (ht : zat mi pc = some (.getfield index, (pc, 3, ci, y, iz), alt, ps)) (hS : zS k = (0, ci, n)) (hF : zF ci y = 3) (kk : ZG ω mi (pc + 3) ls (zj (h.2.1 k y) :: st) h a b) : ZG ω mi pc ls (zr (some k) :: st) h a b := z_get C ht hS (fun _ => by rw [hF]; rfl) kk
theorem z_getd (C : zX ω mi) {index k ci y iz alt n : Nat} {ps : List Nat} (ht : zat mi pc = some (.getfield index, (pc, 3, ci, y, iz), alt, ps)) (hS : zS k = (0, ci, n)) (hF : zF ci y = 4) (kk : ZG ω mi (pc + 3) ls (zd (h.2.2.1 k y) :: st) h a b) : ZG ω mi pc ls (zr (some k) :: st) h a b := z_get C ht hS (fun _ => by rw [hF]; rfl) kk
theorem z_getr (C : zX ω mi) {index k ci y iz alt n : Nat} {ps : List Nat} (ht : zat mi pc = some (.getfield index, (pc, 3, ci, y, iz), alt, ps)) (hS : zS k = (0, ci, n)) (hF : zF ci y = 5) (kk : ZG ω mi (pc + 3) ls (zr (h.2.2.2 k y) :: st) h a b) : ZG ω mi pc ls (zr (some k) :: st) h a b := z_get C ht hS (fun _ => by rw [hF]; rfl) kk
/-- a known reference -/
theorem z_gets (C : zX ω mi) {index k ci y iz alt n r : Nat} {ps : List Nat} (ht : zat mi pc = some (.getfield index, (pc, 3, ci, y, iz), alt, ps)) (hS : zS k = (0, ci, n)) (hF : zF ci y = 5) (hr : h.2.2.2 k y = some r) (kk : ZG ω mi (pc + 3) ls (zr (some r) :: st) h a b) : ZG ω mi pc ls (zr (some k) :: st) h a b := z_getr C ht hS hF (by rw [hr]; exact kk)
/-- what a field takes: a char or a boolean must be one -/
def zfits (ty : Nat) (v : zV) : Prop := match ty with
  | 0 => ∃ x, v = zi x
  | 1 => ∃ x : Int32, v = zi x ∧ 0 ≤ x.toInt ∧ x.toInt < 65536
  | 2 => ∃ x : Int32, v = zi x ∧ (x = 0 ∨ x = 1)
  | 3 => ∃ x, v = zj x
  | 4 => ∃ x, v = zd x
  | _ => ∃ q, v = zr q
theorem zfit_ok {ρ : xE} {ty : Nat} {F : FieldType} (hF : match ty with | 0 => F = .int | 1 => F = .char | 2 => F = .boolean | 3 => F = .long | 4 => F = .double | _ => F.isReference = true) {v : zV} (h : zfits ty v) : narrow F (zD ρ v) = zD ρ v ∧ fits F (zD ρ v) = true := by
  match ty, hF, h with
  | 0, hF, h =>
    obtain ⟨x, rfl⟩ := h
    rw [show F = .int from hF]
    exact ⟨rfl, rfl⟩
  | 1, hF, h =>
    obtain ⟨x, rfl, h0, h1⟩ := h
    have hq : xfit 1 2 x.toInt = true := by
      show cond (xilt x.toInt (Int.ofNat 0)) false (xilt x.toInt (Int.ofNat 65536)) = true
      have e1 : xilt x.toInt (Int.ofNat 0) = false := by
        cases hc : xilt x.toInt (Int.ofNat 0) with
        | false => rfl
        | true =>
          have := xilt_iff.mp hc
          have e : (Int.ofNat 0) = 0 := rfl
          omega
      rw [e1]
      exact xilt_iff.mpr h1
    have hz := xfit_ok (ρ := ρ) (ty := 1) hF hq
    have e : xD ρ (2, x.toInt) = zD ρ (zi x) := by
      show Value.int (Int32.ofInt x.toInt) = Value.int x
      rw [Int32.ofInt_toInt]
    rw [e] at hz
    exact hz
  | 2, hF, h =>
    obtain ⟨x, rfl, h0 | h0⟩ := h
    · subst h0
      rw [show F = .boolean from hF]
      exact ⟨rfl, rfl⟩
    · subst h0
      rw [show F = .boolean from hF]
      exact ⟨rfl, rfl⟩
  | 3, hF, h =>
    obtain ⟨x, rfl⟩ := h
    rw [show F = .long from hF]
    exact ⟨rfl, rfl⟩
  | 4, hF, h =>
    obtain ⟨x, rfl⟩ := h
    rw [show F = .double from hF]
    exact ⟨rfl, rfl⟩
  | ty + 5, hF, h =>
    have hF' : F.isReference = true := hF
    obtain ⟨q, rfl⟩ := h
    have hv : zD ρ (zr q) = .null ∨ ∃ k, zD ρ (zr q) = .ref k := by
      cases q with
      | none => exact Or.inl rfl
      | some k => exact Or.inr ⟨_, rfl⟩
    rcases hv with hv | ⟨q, hv⟩ <;> rw [hv] <;> cases F <;> first | exact ⟨rfl, rfl⟩ | cases hF'
theorem zV_at {N : Nat} {f : Nat → Value} {j : Nat} (hj : j < N) : vp_V ((List.range N).map f) j = f j := by
  unfold vp_V
  rw [List.getD_eq_getElem?_getD, List.getElem?_map, List.getElem?_range hj]
  rfl
theorem z_put (C : zX ω mi) {index k ci y z alt n : Nat} {ps : List Nat} (ht : zat mi pc = some (.putfield index, (pc, 3, ci, y, z), alt, ps)) (hS : zS k = (0, ci, n)) {v : zV} (hfit : zfits z v) {h1 : zH} (hoff : zoff h h1 k) (hval : ∀ j, j < n → zval (kρ (oK ω)) h1 (zF ci j) k j = if j = y then zD (kρ (oK ω)) v else zval (kρ (oK ω)) h (zF ci j) k j)
    (kk : ZG ω mi (pc + 3) ls st h1 a b) : ZG ω mi pc ls (v :: zr (some k) :: st) h a b := by
  obtain ⟨hd, hw, hE⟩ := zok C ht
  obtain ⟨⟨hx, hb, hml, hown, hnm⟩, hts, ⟨hWd, hX, hbl, hs0⟩, hi, hRf, hRl⟩ := C
  have hE3 : (decide (3 = 3) && (decide (ci < 11) && (decide (y < xcN ci) && (decide ((xcT ci y).1 = xcC ci) && ((decide ((xcT ci y).2.2.2 = false) || (decide ((xY mi).name = "<init>") && decide ((xcT ci y).1 = (xY mi).cls))) && xfty z (xcF ci y)))))) = true := hE
  simp only [Bool.and_eq_true, Bool.or_eq_true, decide_eq_true_eq] at hE3
  obtain ⟨-, hci, hk, href, hfin, hF⟩ := hE3
  obtain ⟨p1, p2, p3, p4, p5⟩ := xfacts (ρ := kρ (oK ω)) hci
  have hnn : n = xcN ci := zS_obj hS
  subst hnn
  have hwd := hw _ (show Cond.fieldLink (xY mi).cls index (xcC ci) (xcT ci y).2.1 (xcT ci y).2.2.1 ∈ xwords (xY mi).cls (.putfield index) ci y z alt from List.mem_cons_self)
  have hlink := hts _ (xgw_of hwd.1 rfl)
  intro H locs lsA hR hL
  obtain ⟨hn, hfi⟩ := zfit_ok (ρ := kρ (oK ω)) (xfty_ok z hF) hfit
  have hap := va_apart (own := (xY mi).cls) hts p2 (xcF ci) p3 p4 hWd.1 p1
  obtain ⟨r, h1', cell, q1, q2, q3, q4⟩ := hR.1 k _ (zent hS)
  have hr : r = (xcC ci, xcT ci, xcN ci) := Option.some.inj (h1'.symm.trans p1)
  subst hr
  obtain ⟨hSl, hfc, kC9, hkC, hkind⟩ := hWd.1.1 ci _ p1
  obtain ⟨cf, kf, fi, f, hi', hsl⟩ := hSl y hk
  have hlay := hts _ (p2 _ (u_in_lay hk))
  have hst := (u_facts hfc hkC (u_lays hts p2 hk) hi').1
  have hi2 : (oS ω).fieldFound? (xcC ci) (xcT ci y).2.1 (xcT ci y).2.2.1 = some (cf, kf, fi, f) := by rw [← href]; exact hi'
  have hat : ∀ H' : Heap, H'[(kρ (oK ω)).1 + k]? = some (cell.setSlot f.slot (zD (kρ (oK ω)) v)) → va_at (kD (oK ω)) xcl ((kρ (oK ω)).1 + k, zC (kC (oK ω)) (kρ (oK ω)) h1 k) H' := by
    intro H' e1
    rw [hsl] at e1
    have e9 : zC (kC (oK ω)) (kρ (oK ω)) h1 k = .inr (ci, (List.range (xcN ci)).map (fun j => zval (kρ (oK ω)) h1 (zF ci j) k j)) := by
      unfold zC
      rw [hS]
      rfl
    rw [e9]
    refine ⟨_, p1, ?_⟩
    refine t_OB.to (V := updV (vp_V ((List.range (xcN ci)).map (fun j => zval (kρ (oK ω)) h (zF ci j) k j))) y (zD (kρ (oK ω)) v)) ⟨_, e1, q2, q3, t_set q4 hap hk _⟩ (fun j hj => ?_)
    have hj' : j < xcN ci := hj
    rw [zV_at hj', hval j hj']
    unfold updV
    by_cases e : j = y
    · rw [if_pos e, if_pos e]
    · rw [if_neg e, if_neg e, zV_at hj']
  have fin : ∀ H' : Heap, H'[(kρ (oK ω)).1 + k]? = some (cell.setSlot f.slot (zD (kρ (oK ω)) v)) → H'.size = H.size → (∀ q, q ≠ (kρ (oK ω)).1 + k → H'[q]? = H[q]?) → W (oP ω) (kL (oK ω)) (oE ω) (oR ω) (oS ω) (oM ω) (oA ω) (oB ω) (oT ω) (oC ω) H' (locs ++ [⟨(kρ (oK ω)).1 + k, f.slot⟩]) a b (oQ ω) (F0 (oM ω) (pc + 3) lsA (st.map (zD (kρ (oK ω))))) :=
    fun H' e1 e2 e3 => kk H' _ lsA (zRel_set hR (zS_lt hS (by decide)) _ hoff (hat H' e1) e2 e3) hL
  cases hff : (xcT ci y).2.2.2 with
  | false =>
    unfold u_lay at hlay
    rw [if_neg (by rw [hff]; decide)] at hlay
    have h6 := u_store hfc hkC hkind hlay hi' (p3 y hk) hn hfi
    exact W.putK hx hb (f := f) ⟨hown, hlink, ⟨_, _, _, hi2⟩, hst⟩ (by rw [q2]; exact h6) q1 q3 (by rw [hsl]; exact k2_hasslot (q4 y hk)) rfl rfl hd fin
  | true =>
    rcases hfin with hfin | ⟨hin2, hdecl⟩
    · rw [hff] at hfin
      cases hfin
    unfold u_lay at hlay
    rw [if_pos hff] at hlay
    have hcf : (oM ω).cls = cf := by
      obtain ⟨_, _, c', _, _, _, -, -, hf', -, -, -, hown2, -⟩ := Cond.laysFinal_spec hlay
      have e1 : c' = cf := by have := hi'.symm.trans hf'; simp at this; exact this.1.symm
      rw [hdecl] at hown2
      rw [← e1]; exact Option.some.inj (hown.symm.trans hown2)
    have h6 := u_fits hfc hkC hkind (Or.inr hlay) hi' (p3 y hk) hn hfi
    exact W.putFinK hx hb hown hlink hi2 hst hcf (by rw [hnm]; exact hin2) (by rw [q2]; exact h6) q1 q3 (by rw [hsl]; exact k2_hasslot (q4 y hk)) rfl rfl hd fin
theorem zval_other {ρ : xE} {h1 : zH} {ty k j : Nat} (e1 : h1.1 k j = h.1 k j) (e2 : h1.2.1 k j = h.2.1 k j) (e3 : h1.2.2.1 k j = h.2.2.1 k j) (e4 : h1.2.2.2 k j = h.2.2.2 k j) : zval ρ h1 ty k j = zval ρ h ty k j := by
  match ty with
  | 0 => show Value.int (h1.1 k j) = Value.int (h.1 k j); rw [e1]
  | 1 => show Value.int (h1.1 k j) = Value.int (h.1 k j); rw [e1]
  | 2 => show Value.int (h1.1 k j) = Value.int (h.1 k j); rw [e1]
  | 3 => show Value.long (h1.2.1 k j) = Value.long (h.2.1 k j); rw [e2]
  | 4 => show Value.double (h1.2.2.1 k j) = Value.double (h.2.2.1 k j); rw [e3]
  | n + 5 => show zrf ρ (h1.2.2.2 k j) = zrf ρ (h.2.2.2 k j); rw [e4]
theorem zupI_at {k j : Nat} {x : Int32} : (zupI h k j x).1 k j = x := if_pos ⟨rfl, rfl⟩
theorem zupJ_at {k j : Nat} {x : Int64} : (zupJ h k j x).2.1 k j = x := if_pos ⟨rfl, rfl⟩
theorem zupD_at {k j : Nat} {x : UInt64} : (zupD h k j x).2.2.1 k j = x := if_pos ⟨rfl, rfl⟩
theorem zupR_at {k j : Nat} {x : Option Nat} : (zupR h k j x).2.2.2 k j = x := if_pos ⟨rfl, rfl⟩
theorem zupI_ne {k j k' j' : Nat} {x : Int32} (hn : ¬ (k' = k ∧ j' = j)) : (zupI h k j x).1 k' j' = h.1 k' j' := if_neg hn
theorem zupJ_ne {k j k' j' : Nat} {x : Int64} (hn : ¬ (k' = k ∧ j' = j)) : (zupJ h k j x).2.1 k' j' = h.2.1 k' j' := if_neg hn
theorem zupD_ne {k j k' j' : Nat} {x : UInt64} (hn : ¬ (k' = k ∧ j' = j)) : (zupD h k j x).2.2.1 k' j' = h.2.2.1 k' j' := if_neg hn
theorem zupR_ne {k j k' j' : Nat} {x : Option Nat} (hn : ¬ (k' = k ∧ j' = j)) : (zupR h k j x).2.2.2 k' j' = h.2.2.2 k' j' := if_neg hn
theorem z_puti (C : zX ω mi) {index k ci y z alt n : Nat} {ps : List Nat} {x : Int32} (ht : zat mi pc = some (.putfield index, (pc, 3, ci, y, z), alt, ps)) (hS : zS k = (0, ci, n)) (hF : Nat.ble (zF ci y) 2 = true) (hfit : zfits z (zi x)) (kk : ZG ω mi (pc + 3) ls st (zupI h k y x) a b) : ZG ω mi pc ls (zi x :: zr (some k) :: st) h a b :=
  z_put C ht hS hfit zoffI (fun j hj => by
    by_cases e : j = y
    · subst e
      rw [if_pos rfl, zvalI hF, zupI_at]
    · rw [if_neg e]
      exact zval_other (zupI_ne (fun q => e q.2)) rfl rfl rfl) kk
theorem z_putj (C : zX ω mi) {index k ci y z alt n : Nat} {ps : List Nat} {x : Int64} (ht : zat mi pc = some (.putfield index, (pc, 3, ci, y, z), alt, ps)) (hS : zS k = (0, ci, n)) (hF : zF ci y = 3) (hfit : zfits z (zj x)) (kk : ZG ω mi (pc + 3) ls st (zupJ h k y x) a b) : ZG ω mi pc ls (zj x :: zr (some k) :: st) h a b :=
  z_put C ht hS hfit zoffJ (fun j hj => by
    by_cases e : j = y
    · subst e
      rw [if_pos rfl, hF]
      show Value.long ((zupJ h k j x).2.1 k j) = Value.long x
      rw [zupJ_at]
    · rw [if_neg e]
      exact zval_other rfl (zupJ_ne (fun q => e q.2)) rfl rfl) kk
theorem z_putd (C : zX ω mi) {index k ci y z alt n : Nat} {ps : List Nat} {x : UInt64} (ht : zat mi pc = some (.putfield index, (pc, 3, ci, y, z), alt, ps)) (hS : zS k = (0, ci, n)) (hF : zF ci y = 4) (hfit : zfits z (zd x)) (kk : ZG ω mi (pc + 3) ls st (zupD h k y x) a b) : ZG ω mi pc ls (zd x :: zr (some k) :: st) h a b :=
  z_put C ht hS hfit zoffD (fun j hj => by
    by_cases e : j = y
    · subst e
      rw [if_pos rfl, hF]
      show Value.double ((zupD h k j x).2.2.1 k j) = Value.double x
      rw [zupD_at]
    · rw [if_neg e]
      exact zval_other rfl rfl (zupD_ne (fun q => e q.2)) rfl) kk
theorem z_putr (C : zX ω mi) {index k ci y z alt n : Nat} {ps : List Nat} {x : Option Nat} (ht : zat mi pc = some (.putfield index, (pc, 3, ci, y, z), alt, ps)) (hS : zS k = (0, ci, n)) (hF : zF ci y = 5) (hfit : zfits z (zr x)) (kk : ZG ω mi (pc + 3) ls st (zupR h k y x) a b) : ZG ω mi pc ls (zr x :: zr (some k) :: st) h a b :=
  z_put C ht hS hfit zoffR (fun j hj => by
    by_cases e : j = y
    · subst e
      rw [if_pos rfl, hF]
      show zrf _ ((zupR h k j x).2.2.2 k j) = zrf _ x
      rw [zupR_at]
    · rw [if_neg e]
      exact zval_other rfl rfl rfl (zupR_ne (fun q => e q.2))) kk
/-! arrays -/
theorem z_alen (C : zX ω mi) {k ty n ix iy iz alt : Nat} {ps : List Nat} (ht : zat mi pc = some (.arraylength, (pc, 1, ix, iy, iz), alt, ps)) (hS : zS k = (1, ty, n)) (hty : ty ≤ 10) (kk : ZG ω mi (pc + 1) ls (zi (Int32.ofNat n) :: st) h a b) : ZG ω mi pc ls (zr (some k) :: st) h a b := by
  obtain ⟨hd, hw, hE⟩ := zok C ht
  obtain ⟨⟨hx, hb, hml, hown, hnm⟩, hts, ⟨hWd, hX, hbl, hs0⟩, hi, hRf, hRl⟩ := C
  exact fun H locs lsA hR hL => va_alen hx hb hWd.1 hR.1 k ty (zent1 hS) (xtys_at (kC (oK ω)) hty) rfl hd (kk H locs lsA hR hL)
theorem z_iald (C : zX ω mi) {k n ix iy iz alt : Nat} {ps : List Nat} {i : Int32} (ht : zat mi pc = some (.iaload, (pc, 1, ix, iy, iz), alt, ps)) (hS : zS k = (1, 0, n)) (hin : vp_in i n) (kk : ZG ω mi (pc + 1) ls (zi (h.1 k i.toNatClampNeg) :: st) h a b) : ZG ω mi pc ls (zi i :: zr (some k) :: st) h a b := by
  obtain ⟨hd, hw, hE⟩ := zok C ht
  obtain ⟨⟨hx, hb, hml, hown, hnm⟩, hts, ⟨hWd, hX, hbl, hs0⟩, hi, hRf, hRl⟩ := C
  exact fun H locs lsA hR hL => va_iald hx hb hWd.1 hR.1 k 0 (zent1 hS) (xtys_at (kC (oK ω)) (by omega)) hin hd (kk H locs lsA hR hL)
theorem z_cald (C : zX ω mi) {k n ix iy iz alt : Nat} {ps : List Nat} {i : Int32} (ht : zat mi pc = some (.caload, (pc, 1, ix, iy, iz), alt, ps)) (hS : zS k = (1, 1, n)) (hin : vp_in i n) (kk : ZG ω mi (pc + 1) ls (zi (h.1 k i.toNatClampNeg) :: st) h a b) : ZG ω mi pc ls (zi i :: zr (some k) :: st) h a b := by
  obtain ⟨hd, hw, hE⟩ := zok C ht
  obtain ⟨⟨hx, hb, hml, hown, hnm⟩, hts, ⟨hWd, hX, hbl, hs0⟩, hi, hRf, hRl⟩ := C
  exact fun H locs lsA hR hL => va_cald hx hb hWd.1 hR.1 k 1 (zent1 hS) (xtys_at (kC (oK ω)) (by omega)) hin hd (kk H locs lsA hR hL)
theorem zarr5 {ρ : xE} {ty k : Nat} (h5 : 5 ≤ ty) : zarr ρ h ty k = .inr (.inr (.inr (.inr fun j => (h.2.2.2 k j).map (fun q => ρ.1 + q)))) := by
  match ty, h5 with
  | n + 5, _ => rfl
theorem z_aald (C : zX ω mi) {k ty n ix iy iz alt : Nat} {ps : List Nat} {i : Int32} (ht : zat mi pc = some (.aaload, (pc, 1, ix, iy, iz), alt, ps)) (hS : zS k = (1, ty, n)) (h5 : 5 ≤ ty) (h10 : ty ≤ 10) (hin : vp_in i n) (kk : ZG ω mi (pc + 1) ls (zr (h.2.2.2 k i.toNatClampNeg) :: st) h a b) : ZG ω mi pc ls (zi i :: zr (some k) :: st) h a b := by
  obtain ⟨hd, hw, hE⟩ := zok C ht
  obtain ⟨⟨hx, hb, hml, hown, hnm⟩, hts, ⟨hWd, hX, hbl, hs0⟩, hi, hRf, hRl⟩ := C
  intro H locs lsA hR hL
  have he := zent1 (h := h) (ca := kC (oK ω)) (ρ := kρ (oK ω)) hS
  rw [zarr5 h5] at he
  have htt := xtys_at (kC (oK ω)) h10
  rw [xtyF5 h5 h10] at htt
  refine va_aldq hx hb hWd.1 hR.1 k ty he htt hin hd ?_
  rw [zrf_eq]
  exact kk H locs lsA hR hL
/-- a known reference out of an array -/
theorem z_aalds (C : zX ω mi) {k ty n r ix iy iz alt : Nat} {ps : List Nat} {i : Int32} (ht : zat mi pc = some (.aaload, (pc, 1, ix, iy, iz), alt, ps)) (hS : zS k = (1, ty, n)) (h5 : 5 ≤ ty) (h10 : ty ≤ 10) (hin : vp_in i n) (hr : h.2.2.2 k i.toNatClampNeg = some r) (kk : ZG ω mi (pc + 1) ls (zr (some r) :: st) h a b) : ZG ω mi pc ls (zi i :: zr (some k) :: st) h a b := z_aald C ht hS h5 h10 hin (by rw [hr]; exact kk)
theorem zRel_arr {D : va_G} {ca : Nat → ClassId} {ρ : xE} {H0 H1 : Heap} {h1 : zH} {locs1 : List Loc} {k : Nat} {e : va_E} (hk : k < zN) (hoff : zoff h h1 k) (he : zC ca ρ h1 k = e) (hP : va_P D xcl ((zW ca ρ h).set k (ρ.1 + k, e)) H1) (hS : va_S (fun q => ρ.1 ≤ q) H0 H1 locs1) (hB : ρ.1 = H0.size) : zRel D ca ρ H0 h1 H1 locs1 := by
  subst he
  rw [zW_set hk hoff] at hP
  exact ⟨hP, hS, hB⟩
theorem zC1 {ca : Nat → ClassId} {ρ : xE} {k ty n : Nat} (hS : zS k = (1, ty, n)) : zC ca ρ h k = .inl (ca ty, n, zarr ρ h ty k) := by
  unfold zC
  rw [hS]
  rfl
theorem z_iast (C : zX ω mi) {k n ix iy iz alt : Nat} {ps : List Nat} {i x : Int32} (ht : zat mi pc = some (.iastore, (pc, 1, ix, iy, iz), alt, ps)) (hS : zS k = (1, 0, n)) (hin : vp_in i n) (kk : ZG ω mi (pc + 1) ls st (zupI h k i.toNatClampNeg x) a b) : ZG ω mi pc ls (zi x :: zi i :: zr (some k) :: st) h a b := by
  obtain ⟨hd, hw, hE⟩ := zok C ht
  obtain ⟨⟨hx, hb, hml, hown, hnm⟩, hts, ⟨hWd, hX, hbl, hs0⟩, hi, hRf, hRl⟩ := C
  intro H locs lsA hR hL
  refine va_iast hx hb hWd.1 hR.1 zW_D hR.2.1 k 0 (zent1 hS) (xtys_at (kC (oK ω)) (by omega)) hin hd fun H1 locs1 hP _ hS1 => kk H1 locs1 lsA (zRel_arr (zS_lt hS (by decide)) zoffI ?_ hP hS1 hR.2.2) hL
  rw [zC1 hS]
  refine congrArg (fun f => Sum.inl (_, n, Sum.inl f)) (funext fun j => ?_)
  show (if k = k ∧ j = i.toNatClampNeg then x else h.1 k j) = if j = i.toNatClampNeg then x else h.1 k j
  by_cases e : j = i.toNatClampNeg
  · rw [if_pos ⟨rfl, e⟩, if_pos e]
  · rw [if_neg (fun q => e q.2), if_neg e]
theorem z_cast (C : zX ω mi) {k n ix iy iz alt : Nat} {ps : List Nat} {i x : Int32} (ht : zat mi pc = some (.castore, (pc, 1, ix, iy, iz), alt, ps)) (hS : zS k = (1, 1, n)) (hin : vp_in i n) (hch : vp_nar .char x = x) (kk : ZG ω mi (pc + 1) ls st (zupI h k i.toNatClampNeg x) a b) : ZG ω mi pc ls (zi x :: zi i :: zr (some k) :: st) h a b := by
  obtain ⟨hd, hw, hE⟩ := zok C ht
  obtain ⟨⟨hx, hb, hml, hown, hnm⟩, hts, ⟨hWd, hX, hbl, hs0⟩, hi, hRf, hRl⟩ := C
  intro H locs lsA hR hL
  refine va_cast hx hb hWd.1 hR.1 zW_D hR.2.1 k 1 (zent1 hS) (xtys_at (kC (oK ω)) (by omega)) hin hd fun H1 locs1 hP _ hS1 => kk H1 locs1 lsA (zRel_arr (zS_lt hS (by decide)) zoffI ?_ hP hS1 hR.2.2) hL
  rw [zC1 hS, hch]
  refine congrArg (fun f => Sum.inl (_, n, Sum.inl f)) (funext fun j => ?_)
  show (if k = k ∧ j = i.toNatClampNeg then x else h.1 k j) = if j = i.toNatClampNeg then x else h.1 k j
  by_cases e : j = i.toNatClampNeg
  · rw [if_pos ⟨rfl, e⟩, if_pos e]
  · rw [if_neg (fun q => e q.2), if_neg e]
theorem z_aast (C : zX ω mi) {k ty n r ci m ix iy iz alt : Nat} {ps : List Nat} {i : Int32} (ht : zat mi pc = some (.aastore, (pc, 1, ix, iy, iz), alt, ps)) (hS : zS k = (1, ty, n)) (h5 : 5 ≤ ty) (h10 : ty ≤ 10) (hS2 : zS r = (0, ci, m)) (hcl : ci < 11 ∧ xcC ci = xtyC (ty - 5)) (hin : vp_in i n) (kk : ZG ω mi (pc + 1) ls st (zupR h k i.toNatClampNeg (some r)) a b) : ZG ω mi pc ls (zr (some r) :: zi i :: zr (some k) :: st) h a b := by
  obtain ⟨hd, hw, hE⟩ := zok C ht
  obtain ⟨⟨hx, hb, hml, hown, hnm⟩, hts, ⟨hWd, hX, hbl, hs0⟩, hi, hRf, hRl⟩ := C
  intro H locs lsA hR hL
  have he := zent1 (h := h) (ca := kC (oK ω)) (ρ := kρ (oK ω)) hS
  rw [zarr5 h5] at he
  have htt := xtys_at (kC (oK ω)) h10
  rw [xtyF5 h5 h10, ← hcl.2] at htt
  obtain ⟨q1, q2, q3, q4, q5⟩ := xfacts (ρ := kρ (oK ω)) hcl.1
  refine va_astq hx hb hWd.1 hR.1 zW_D hR.2.1 k ty r ci he htt (zent hS2) q1 hin hd fun H1 locs1 hP _ hS1 => kk H1 locs1 lsA (zRel_arr (zS_lt hS (by decide)) zoffR ?_ hP hS1 hR.2.2) hL
  rw [zC1 hS, zarr5 h5]
  refine congrArg (fun f => Sum.inl (_, n, Sum.inr (Sum.inr (Sum.inr (Sum.inr f))))) (funext fun j => ?_)
  show (if k = k ∧ j = i.toNatClampNeg then some r else h.2.2.2 k j).map (fun q => (kρ (oK ω)).1 + q) = if j = i.toNatClampNeg then some ((kρ (oK ω)).1 + r) else (h.2.2.2 k j).map (fun q => (kρ (oK ω)).1 + q)
  by_cases e : j = i.toNatClampNeg
  · rw [if_pos ⟨rfl, e⟩, if_pos e]
    rfl
  · rw [if_neg (fun q => e q.2), if_neg e]
end ZH
