/-! a throw of a method's own, over a heap of numbers -/
theorem z_throw {ω : zO} {mi pc a b : Nat} {ls : List (Nat × zV)} {st : List zV} {h : zH} (C : zX ω mi) {i E mc ms : Nat} (hd : decode (xBy mi) pc = .ok (.new i, 3)) (hth : xthr (xY mi).cls (xBy mi) pc i E = true) (hh : xHH mi = []) (he : zET ω E h mc ms) (hsum : zsum st ≤ 8) (hab : a + 1 ≤ mc ∧ b + 6 ≤ ms) : ZG ω mi pc ls st h a b := by
  intro H locs lsA hR hL
  rw [he.1]
  obtain ⟨ha, hb2⟩ := hab
  have hRc := he.2.1
  have hRs := he.2.2
  refine W_size fun hsz => ?_
  obtain ⟨⟨hx, hb, hml, how, hnm⟩, hts, ⟨hW, hX, hbl, hs0⟩, -, hRf, hRl, -, hlocks, hnt', hl⟩ := C
  have hnt := hnt' hh
  obtain ⟨q, hq, hth⟩ := List.any_eq_true.mp hth
  simp only [Bool.and_eq_true, Bool.or_eq_true, decide_eq_true_eq] at hth
  obtain ⟨e1, e2, e3, d3, h4⟩ := hth
  obtain ⟨⟨f1, f1s, f2⟩, ⟨r0, r1, r2, r5⟩, ⟨f3, f4⟩, f5, f6⟩ := xsites_ok q hq
  rw [e1, e2, e3] at f3
  rw [e1] at f5
  rw [e1, e3] at f6
  rw [e3] at f1 f4 r0 r1 r2 r5
  obtain ⟨sa, hstr⟩ := hW.2.2.2.1 _ _ _ f5
  have hat : ∀ w ∈ x_atSX (xY mi).cls q.2.2.2.1 (xexN E) xsup (xrix E) (xrx E) xnm, w.before (oA ω) (oS ω) = true := fun w hw => by
    obtain ⟨g1, g2 | g2⟩ := f6 w hw
    · exact hts w (xgw_of g1 g2)
    · exact va_Nw.use (xonT g2) (hW.2.1 w g1 g2)
  have hgd : ∀ w ∈ Cond.classLink (xY mi).cls i (xexN E) :: Cond.initialized (xexN E) :: x_atSX (xY mi).cls q.2.2.2.1 (xexN E) xsup (xrix E) (xrx E) xnm, vx_ot w = true := fun w hw => by
    rcases List.mem_cons.mp hw with rfl | hw
    · rfl
    rcases List.mem_cons.mp hw with rfl | hw
    · rfl
    obtain ⟨g1, g2 | g2⟩ := f6 w hw
    · unfold vx_ot; rw [g2, Bool.or_true]
    · unfold vx_ot; rw [xonT g2]; rfl
  have hS : va_S (fun q => (kρ (oK ω)).1 ≤ q) (oS ω).heap H locs := ⟨hsz, fun q h1 h2 => by
    have hlt : q < (kρ (oK ω)).1 := Nat.not_le.mp h2
    rw [hs0 q hlt]
    have hB : (kρ (oK ω)).1 = (kH (oK ω)).size := hR.2.2
    exact hR.2.1.2.1 q (by omega) h2, hR.2.1.2.2⟩
  have hrl : ((st.map (zD (kρ (oK ω)))).map fun v => v.category).sum + (13 * (xnm.length + 2) + 43) ≤ (oR ω).locals := by
    rw [zsum_eq]
    show zsum st + (13 * (1 + 2) + 43) ≤ _
    omega
  have hrf : xnm.length + 4 < (oR ω).frames := by show 1 + 4 < _; omega
  have hx9 : ∀ t9 : State, (oS ω).vm.Alike t9.vm → H.size ≤ t9.heap.size → (∀ q : Nat, q < H.size → t9.heap[q]? = H[q]?) → zXc (oK ω) E h (xexN E) (oS ω) t9 := fun t9 _ k1 k2 => ⟨rfl, zRel_more hR k1 k2 (fun _ h => by cases h)⟩
  rcases h4 with ⟨-, d4, d6, d9⟩ | ⟨-, d4, d6, d9⟩
  · exact x_throwX (A := fun q => (kρ (oK ω)).1 ≤ q) (wd := 2) hx hb hl r0 r1 r2 r5 how f1 f1s f2 (hts _ f3) (hts _ f4) hstr hat hgd hW.2.2.2.2.2.1 hW.2.2.2.2.2.2 hS (by rw [hL.1]; exact hml.symm) hd d3 (Or.inl ⟨rfl, d4⟩) d6 d9 (fun x hx => (hnt x hx).elim) hrf hrl (by omega) (by omega) hlocks hx9 hR.2.1.2.2 ha hb2
  · exact x_throwX (A := fun q => (kρ (oK ω)).1 ≤ q) (wd := 3) hx hb hl r0 r1 r2 r5 how f1 f1s f2 (hts _ f3) (hts _ f4) hstr hat hgd hW.2.2.2.2.2.1 hW.2.2.2.2.2.2 hS (by rw [hL.1]; exact hml.symm) hd d3 (Or.inr ⟨rfl, d4⟩) d6 d9 (fun x hx => (hnt x hx).elim) hrf hrl (by omega) (by omega) hlocks hx9 hR.2.1.2.2 ha hb2
set_option maxRecDepth 20000 in
/-- an index that is not within throws -/
theorem t_requireIndex {κ : zK} (hκ : zKg κ) {x n : Int32} (hn : zwithin x n = false) (h : zH) : zThr κ 120 [zi x, zi n] h 4 h 1 6 := by
  refine zThr_of hκ (by decide) (by decide +kernel) (Nat.le_of_ble_eq_true rfl) fun ω C hK he => ?_
  refine z_iloadn C rfl rfl ?_
  refine z_iloadn C rfl rfl ?_
  refine z_calls C rfl ⟨by decide, by decide, by decide⟩ (c_isWithin (zKg_of C) _) rfl rfl (Nat.zero_le _) ⟨Nat.zero_le _, Nat.zero_le _⟩ ?_
  rw [hn]
  refine z_if C rfl (fun hc => absurd rfl hc) (fun hc => ?_)
  exact z_throw C (i := 268) (E := 4) (by decide +kernel) (by decide +kernel) (by decide +kernel) he (Nat.zero_le _) ⟨Nat.le_refl _, Nat.le_refl _⟩
