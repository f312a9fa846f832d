/-! CONTRACTS with a predicate: what a method answers and leaves is one of those of which Q speaks; switches by groups of keys -/
def zQq (κ : zK) (Q : Option zV → zH → Prop) : Array Value → State → Outcome → State → Prop := fun _ _ o t => ∃ v h, Q v h ∧ o = .returned (v.map (zD (kρ κ))) ∧ zRel (kD κ) (kC κ) (kρ κ) (kH κ) h t.heap []
def zRq (κ : zK) (i : Nat) (as : List zV) (h : zH) (Q : Option zV → zH → Prop) (mc ms : Nat) : Prop := vx_Met (kL κ) (xY i) (xws i) (zrm i mc ms) (zPc κ as h) (zQq κ Q) zX0 mc ms (zfr κ)
def zEq (ω : zO) (Q : Option zV → zH → Prop) (mc ms : Nat) : Prop := oQ ω = vx_MQ (oB ω) (zQq (oK ω) Q) zX0 (oA ω) (oS ω) mc ms (zfr (oK ω)) ∧ (oR ω).cells = mc ∧ (oR ω).slots = ms
section ZQ
variable {ω : zO} {mi pc a b : Nat} {ls : List (Nat × zV)} {st : List zV} {h h1 : zH} {κ : zK} {Q : Option zV → zH → Prop}
theorem zRq_of {i : Nat} {as : List zV} {mc ms : Nat} (hκ : zKg κ) (hi : i < 131) (hh : xHH i = []) (hsum : zsum as ≤ xML i)
    (body : ∀ ω : zO, zX ω i → oK ω = κ → zEq ω Q mc ms → ZG ω i 0 (zargs as 0) [] h 0 0) : zRq κ i as h Q mc ms := z_of hκ hi hh hsum fun ω C e1 e2 e3 e4 => body ω C e1 (by subst e1; exact ⟨e2, e3, e4⟩)
theorem z_afterq {H : Heap} {locs : List Loc} {lsA : Array Slot} {st0 : List Value} {mc ms : Nat} {av : Array Value}
    (hr : vx_Run (oP ω) (kL (oK ω)) (oE ω) (oR ω) (oS ω) (oM ω) (oA ω) (oB ω) (oT ω) (oC ω) H locs a b mc ms (F0 (oM ω) pc lsA st0) (st.map (zD (kρ (oK ω)))) (zQq (oK ω) Q av) zX0 (zfr (oK ω))) (hR : zRel (kD (oK ω)) (kC (oK ω)) (kρ (oK ω)) (kH (oK ω)) h H locs) (hL : lv_has lsA (xML mi) (zM (kρ (oK ω)) ls))
    (kk : ∀ v h1, Q v h1 → ZG ω mi (pc + 3) ls (v.toList ++ st) h1 (a + mc) (b + ms)) : W (oP ω) (kL (oK ω)) (oE ω) (oR ω) (oS ω) (oM ω) (oA ω) (oB ω) (oT ω) (oC ω) H locs a b (oQ ω) (F0 (oM ω) pc lsA st0) := by
  intro T hT X
  rcases hr T hT X with ⟨v', st₀, t9, T', L, h0, X', hLL, e1, e2, ⟨v, h1, hQ, q2, q3⟩, go⟩ | ⟨q, st₀, t9, T', L, E, ce, h0, X', hLL, e1, e2, hF, hce, hcv, hcl, go⟩
  · have hv : v' = v.map (zD (kρ (oK ω))) := by
      have := q2
      injection this
    have hs : v'.toList ++ st.map (zD (kρ (oK ω))) = (v.toList ++ st).map (zD (kρ (oK ω))) := by
      rw [hv, List.map_append]
      cases v <;> rfl
    rw [← e1] at q3
    have q4 : zRel (kD (oK ω)) (kC (oK ω)) (kρ (oK ω)) (kH (oK ω)) h1 T'.heap (locs ++ L) := by
      obtain ⟨g1, g2, g3⟩ := q3
      refine ⟨g1, ⟨g2.1, g2.2.1, fun z hz => ?_⟩, g3⟩
      rcases List.mem_append.mp hz with hz | hz
      · exact hR.2.1.2.2 z hz
      · exact hLL z hz
    obtain ⟨t2, a1, b1⟩ := kk v h1 hQ T'.heap (locs ++ L) lsA q4 hL T' rfl X'
    refine ⟨t2, go t2 ?_, b1⟩
    show Steps (oP ω).tables (oE ω) (oB ω) (T'.setTop (F0 (oM ω) (pc + 3) lsA (v'.toList ++ st.map (zD (kρ (oK ω)))))) t2
    rw [hs]
    exact a1
  · exact hF.elim
section ZQC
variable {j idx iy iz alt mc ms : Nat} {ps : List Nat} {as : List zV} {st0 : List zV}
theorem z_callsq (C : zX ω mi) (ht : zat mi pc = some (.invokestatic idx, (pc, 3, j, iy, iz), alt, ps)) (hj : j < 131 ∧ zh j + 1 ≤ zh mi ∧ xHH j = []) (hM : zRq (oK ω) j as h Q mc ms) (hn : as.length = (xmeths j).2.2.1) (hst : st0 = as.reverse ++ st) (hsum : zsum st ≤ 8) (hca : a + mc ≤ (oR ω).cells ∧ b + ms ≤ (oR ω).slots) (kk : ∀ v h1, Q v h1 → ZG ω mi (pc + 3) ls (v.toList ++ st) h1 (a + mc) (b + ms)) : ZG ω mi pc ls st0 h a b :=
  fun _ _ _ hR hL => z_afterq (z_runS C ht hj.1 hj.2.1 hj.2.2 hM hn hst hsum hca.1 hca.2 hR hL) hR hL kk
theorem z_callvq (C : zX ω mi) {ci k n : Nat} (ht : zat mi pc = some (.invokevirtual idx, (pc, 3, j, iy, ci), alt, ps)) (hj : j < 131 ∧ zh j + 1 ≤ zh mi) (hS : zS k = (0, ci, n)) (hM : zRq (oK ω) j (zr (some k) :: as) h Q mc ms) (hn : as.length = (xmeths j).2.2.1) (hst : st0 = as.reverse ++ zr (some k) :: st) (hsum : zsum st ≤ 8) (hca : a + mc ≤ (oR ω).cells ∧ b + ms ≤ (oR ω).slots) (kk : ∀ v h1, Q v h1 → ZG ω mi (pc + 3) ls (v.toList ++ st) h1 (a + mc) (b + ms)) : ZG ω mi pc ls st0 h a b :=
  fun _ _ _ hR hL => z_afterq (z_runV C ht hj.1 hj.2 hS hM hn hst hsum hca.1 hca.2 hR hL) hR hL kk
end ZQC
section ZQR
variable {ix iy iz alt mc ms : Nat} {ps : List Nat}
theorem z_ireturnq (C : zX ω mi) {x : Int32} (ht : zat mi pc = some (.ireturn, (pc, 1, ix, iy, iz), alt, ps)) (he : zEq ω Q mc ms) (ha : a ≤ mc ∧ b ≤ ms) (hrt : xRt mi = some .int) (hQ : Q (some (zi x)) h) : ZG ω mi pc ls [zi x] h a b := by
  obtain ⟨hd, hw, hE⟩ := zok C ht
  obtain ⟨⟨hx, hb, hml, hown, hnm⟩, hts, -, hi, hRf, hRl, hret, hlocks, -⟩ := C
  intro H locs lsA hR hL
  rw [he.1]
  exact W.widen ha.1 ha.2 (vx_ret (W.iret hx hb (hret.trans hrt) (fun u hu _ => ⟨some (zi x), h, hQ, rfl, by rw [hu]; exact zRel_nil hR⟩) hR.2.1.2.2 hd hlocks))
theorem z_zreturnq (C : zX ω mi) {x : Int32} {F : FieldType} (ht : zat mi pc = some (.ireturn, (pc, 1, ix, iy, iz), alt, ps)) (he : zEq ω Q mc ms) (ha : a ≤ mc ∧ b ≤ ms) (hrt : xRt mi = some F) (hn : narrow F (.int x) = .int x) (hQ : Q (some (zi x)) h) : ZG ω mi pc ls [zi x] h a b := by
  obtain ⟨hd, hw, hE⟩ := zok C ht
  obtain ⟨⟨hx, hb, hml, hown, hnm⟩, hts, -, hi, hRf, hRl, hret, hlocks, -⟩ := C
  intro H locs lsA hR hL
  rw [he.1]
  exact W.widen ha.1 ha.2 (vx_ret (W.zret hx hb (hret.trans hrt) hn (fun u hu _ => ⟨some (zi x), h, hQ, rfl, by rw [hu]; exact zRel_nil hR⟩) hR.2.1.2.2 hd hlocks))
theorem z_lreturnq (C : zX ω mi) {x : Int64} (ht : zat mi pc = some (.lreturn, (pc, 1, ix, iy, iz), alt, ps)) (he : zEq ω Q mc ms) (ha : a ≤ mc ∧ b ≤ ms) (hrt : xRt mi = some .long) (hQ : Q (some (zj x)) h) : ZG ω mi pc ls [zj x] h a b := by
  obtain ⟨hd, hw, hE⟩ := zok C ht
  obtain ⟨⟨hx, hb, hml, hown, hnm⟩, hts, -, hi, hRf, hRl, hret, hlocks, -⟩ := C
  intro H locs lsA hR hL
  rw [he.1]
  exact W.widen ha.1 ha.2 (vx_ret (W.lret hx hb (hret.trans hrt) (fun u hu _ => ⟨some (zj x), h, hQ, rfl, by rw [hu]; exact zRel_nil hR⟩) hR.2.1.2.2 hd hlocks))
theorem z_returnq (C : zX ω mi) (ht : zat mi pc = some (.return_, (pc, 1, ix, iy, iz), alt, ps)) (he : zEq ω Q mc ms) (ha : a ≤ mc ∧ b ≤ ms) (hrt : xRt mi = none) (hQ : Q none h) : ZG ω mi pc ls [] h a b := by
  obtain ⟨hd, hw, hE⟩ := zok C ht
  obtain ⟨⟨hx, hb, hml, hown, hnm⟩, hts, -, hi, hRf, hRl, hret, hlocks, -⟩ := C
  intro H locs lsA hR hL
  rw [he.1]
  exact W.widen ha.1 ha.2 (vx_ret (W.vret hx hb (hret.trans hrt) (fun u hu _ => ⟨none, h, hQ, rfl, by rw [hu]; exact zRel_nil hR⟩) hR.2.1.2.2 hd hlocks))
end ZQR
end ZQ
/-! switches -/
def ztsw (dflt lo hi : Int) (offs : Array Int) (x : Int) : Int := if x < lo ∨ hi < x then dflt else (offs[(x - lo).toNat]?).getD dflt
section ZSW
variable {ω : zO} {mi pc a b : Nat} {ls : List (Nat × zV)} {st : List zV} {h : zH}
theorem z_ts (C : zX ω mi) {dflt lo hi : Int} {offs : Array Int} {len : Nat} {x : Int32} {ix iy iz alt : Nat} {ps : List Nat} (ht : zat mi pc = some (.tableswitch dflt lo hi offs, (pc, len, ix, iy, iz), alt, ps)) (hsz : (offs.size : Int) = hi - lo + 1) {off : Int} (ho : ztsw dflt lo hi offs x.toInt = off) {tgt : Nat} (hg : (pc : Int) + off = (tgt : Int)) (kk : ZG ω mi tgt ls st h a b) : ZG ω mi pc ls (zi x :: st) h a b := by
  unfold ztsw at ho
  split at ho
  · rename_i hq
    subst ho
    exact z_tsOut C ht hq hg kk
  · rename_i hq
    have h1 : ¬ x.toInt < lo := fun q => hq (Or.inl q)
    have h2 : ¬ hi < x.toInt := fun q => hq (Or.inr q)
    have hl : (x.toInt - lo).toNat < offs.size := by omega
    rw [Array.getElem?_eq_getElem hl, Option.getD_some] at ho
    exact z_tsIn C ht h1 h2 (by rw [Array.getElem?_eq_getElem hl, ho]) hg kk
theorem z_tsE (C : zX ω mi) {dflt lo hi : Int} {offs : Array Int} {len : Nat} {x : Int32} {ix iy iz alt : Nat} {ps : List Nat} (E : List Int) (hx : x.toInt ∈ E) (ht : zat mi pc = some (.tableswitch dflt lo hi offs, (pc, len, ix, iy, iz), alt, ps)) (hsz : (offs.size : Int) = hi - lo + 1) {off : Int} (hE : (E.all fun e => decide (ztsw dflt lo hi offs e = off)) = true) {tgt : Nat} (hg : (pc : Int) + off = (tgt : Int)) (kk : ZG ω mi tgt ls st h a b) : ZG ω mi pc ls (zi x :: st) h a b :=
  z_ts C ht hsz (of_decide_eq_true (List.all_eq_true.mp hE _ hx)) hg kk
theorem z_tsD (C : zX ω mi) {dflt lo hi : Int} {offs : Array Int} {len : Nat} {x : Int32} {ix iy iz alt : Nat} {ps : List Nat} (E : List Int) (hx : x.toInt ∉ E) (ht : zat mi pc = some (.tableswitch dflt lo hi offs, (pc, len, ix, iy, iz), alt, ps)) (hsz : (offs.size : Int) = hi - lo + 1) (hE : ((List.range offs.size).all fun i => decide ((offs[i]?).getD dflt = dflt) || decide (lo + (i : Int) ∈ E)) = true) {tgt : Nat} (hg : (pc : Int) + dflt = (tgt : Int)) (kk : ZG ω mi tgt ls st h a b) : ZG ω mi pc ls (zi x :: st) h a b := by
  refine z_ts C ht hsz ?_ hg kk
  unfold ztsw
  split
  · rfl
  · rename_i hq
    have h1 : ¬ x.toInt < lo := fun q => hq (Or.inl q)
    have h2 : ¬ hi < x.toInt := fun q => hq (Or.inr q)
    have hl : (x.toInt - lo).toNat < offs.size := by omega
    have h3 := List.all_eq_true.mp hE _ (List.mem_range.mpr hl)
    rw [Bool.or_eq_true, decide_eq_true_eq, decide_eq_true_eq] at h3
    rcases h3 with h3 | h3
    · exact h3
    · exfalso
      refine hx ?_
      rwa [show lo + ((x.toInt - lo).toNat : Int) = x.toInt by omega] at h3
theorem zlsD {d : Int} {x : Int} : ∀ {pa : List (Int × Int)}, x ∉ pa.map Prod.fst → Op.lookupswitch.offset pa d x = d
  | [], _ => rfl
  | q :: pa, hx => by
    have h1 : ¬ q.1 = x := fun e => hx (by rw [List.map_cons, e]; exact List.mem_cons_self)
    have h2 : x ∉ pa.map Prod.fst := fun e => hx (List.mem_cons_of_mem _ e)
    have ih := zlsD (d := d) h2
    obtain ⟨q1, q2⟩ := q
    unfold Op.lookupswitch.offset
    first
    | (rw [if_neg h1]; exact ih)
    | simp_all [Op.lookupswitch.offset]
theorem z_lsE (C : zX ω mi) {dflt : Int} {pa : Array (Int × Int)} {len : Nat} {x : Int32} {ix iy iz alt : Nat} {ps : List Nat} (E : List Int) (hx : x.toInt ∈ E) (ht : zat mi pc = some (.lookupswitch dflt pa, (pc, len, ix, iy, iz), alt, ps)) (hp : (pa.toList.zip (pa.toList.drop 1)).all (fun (a, next) => a.1 < next.1) = true) {off : Int} (hE : (E.all fun e => decide (Op.lookupswitch.offset pa.toList dflt e = off)) = true) {tgt : Nat} (hg : (pc : Int) + off = (tgt : Int)) (kk : ZG ω mi tgt ls st h a b) : ZG ω mi pc ls (zi x :: st) h a b :=
  z_lsw C ht hp (of_decide_eq_true (List.all_eq_true.mp hE _ hx)) hg kk
theorem z_lsD (C : zX ω mi) {dflt : Int} {pa : Array (Int × Int)} {len : Nat} {x : Int32} {ix iy iz alt : Nat} {ps : List Nat} (E : List Int) (hx : x.toInt ∉ E) (ht : zat mi pc = some (.lookupswitch dflt pa, (pc, len, ix, iy, iz), alt, ps)) (hp : (pa.toList.zip (pa.toList.drop 1)).all (fun (a, next) => a.1 < next.1) = true) (hE : (pa.toList.all fun q => decide (q.1 ∈ E)) = true) {tgt : Nat} (hg : (pc : Int) + dflt = (tgt : Int)) (kk : ZG ω mi tgt ls st h a b) : ZG ω mi pc ls (zi x :: st) h a b :=
  z_lsw C ht hp (zlsD fun q => by
    obtain ⟨y, hy, e⟩ := List.mem_map.mp q
    have := of_decide_eq_true (List.all_eq_true.mp hE _ hy)
    exact hx (e ▸ this)) hg kk
end ZSW
theorem znm {x : Int} {A B : List Int} (h1 : x ∉ A) (h2 : x ∉ B) : x ∉ A ++ B := fun q => (List.mem_append.mp q).elim h1 h2
theorem znm0 {x : Int} : x ∉ ([] : List Int) := fun q => by cases q
theorem zofm {x : Int32} {e : Int} (h : x.toInt ∈ [e]) : x = Int32.ofInt e := by
  have h : x.toInt = e := List.mem_singleton.mp h
  rw [← h, Int32.ofInt_toInt]
