/-! what the calls leave -/
section ZCA
variable {h : zH} {M : Nat}
/-- behind an event: as between events, at most 60 things more -/
def zNx (h : zH) (M : Nat) (h' : zH) (n : Nat) : Prop := ∃ M', M ≤ M' ∧ M' ≤ M + 60 ∧ zEv h' M' ∧ zEff h h' n
theorem zNx_same (E : zEv h M) {n : Nat} : zNx h M h n := ⟨M, Nat.le_refl _, by omega, E, zEff_refl⟩
theorem zNx_settle {g : zH} {n : Nat} (hM : M ≤ 900000) (E : zEv h M) (B : zBI g) (s : zSt h g n) : zNx h M (zsettle g) n := by
  obtain ⟨M', a, b, c, d, e, f⟩ := zev_settle hM E B s
  exact ⟨M', a, b, d, e⟩
theorem e_set (hM : M ≤ 900000) (E : zEv h M) {l g : Nat} {x : Int32} (hl : l < 3) (hg : g < 8) : zNx h M (zset h l g x) 0 ∧ 0 ≤ (zset h l g x).1 2 5 - (zstG (zbNum h 853 (nI l) x) l g 853).1 2 5 := by
  have v : zVW h 853 (zbNum h 853 (nI l) x) := zV_num E.1.1 E.1.2.1 zS_853
  obtain ⟨B1, s1⟩ := zBI_853 E.1 v
  obtain ⟨B2, s2⟩ := zBI_stG B1 hl hg v.2.2.2
  obtain ⟨M', a, b, c, d, e, f⟩ := zev_settle hM E B2 (zSt_tr s1 s2)
  unfold zset
  exact ⟨⟨M', a, b, d, e⟩, zfreed_up (M := M') (by omega) B2.2.2.2.2.2.2 d.1.2.2.2.2.2.2 c d.2.2 f.2.2⟩
theorem e_pass (hM : M ≤ 900000) (E : zEv h M) {l g m n : Nat} (hl : l < 3) (hg : g < 8) (hm : m < 3) (hn : n < 8) : zNx h M (zpass h l g m n).2 0 ∧ ((zpass h l g m n).1 ≠ 0 → zst (zpass h l g m n).2 M = zst h M ∧ zEv (zpass h l g m n).2 M) := by
  have v0 : zVW h 853 (zcp h 853 (6 + (8 * l + g))) := zV_cp E.1.1 E.1.2.1 zS_853 (zS_val24 (8 * l + g) (by omega)) (E.1.2.2.2.1 _ (by omega)).1
  have v : zVW h 853 (zps h l g m n).2 := zVW_tr v0 (zV_cr v0.2.1 v0.2.2.1 zS_853 v0.2.2.2)
  obtain ⟨q1, q2, q3⟩ := zoff_Ev E v
  obtain ⟨B1, s1⟩ := zBI_853 E.1 v
  by_cases c : (zps h l g m n).1 = 0
  · have e : zpass h l g m n = ((zps h l g m n).1, zsettle (zstG (zps h l g m n).2 m n 853)) := if_pos c
    rw [e]
    dsimp only
    obtain ⟨B2, s2⟩ := zBI_stG B1 hm hn v.2.2.2
    exact ⟨zNx_settle hM E B2 (zSt_tr s1 s2), fun q => absurd c q⟩
  · have e : zpass h l g m n = zps h l g m n := if_neg c
    rw [e]
    exact ⟨⟨M, Nat.le_refl _, by omega, q1, q2⟩, fun _ => ⟨q3, q1⟩⟩
theorem e_put (hM : M ≤ 900000) (E : zEv h M) {l r f n : Nat} (hl : l < 3) (hr : r < 60) (hf : f < 3) (hn : n < 8) : zNx h M (zput h l r f n).2 0 ∧ ((zput h l r f n).1 ≠ 0 → zst (zput h l r f n).2 M = zst h M ∧ zEv (zput h l r f n).2 M) := by
  have v0 : zVW h 853 (zcp h 853 (6 + (8 * l + n))) := zV_cp E.1.1 E.1.2.1 zS_853 (zS_val24 (8 * l + n) (by omega)) (E.1.2.2.2.1 _ (by omega)).1
  have v : zVW h 853 (zpt h l r n).2 := zVW_tr v0 (zV_cr v0.2.1 v0.2.2.1 zS_853 v0.2.2.2)
  obtain ⟨q1, q2, q3⟩ := zoff_Ev E v
  obtain ⟨B1, s1⟩ := zBI_853 E.1 v
  by_cases c : (zpt h l r n).1 = 0
  · have e : zput h l r f n = ((zpt h l r n).1, zsettle (zstF (zpt h l r n).2 r f 853)) := if_pos c
    rw [e]
    dsimp only
    obtain ⟨B2, s2⟩ := zBI_stF B1 hr hf v.2.2.2
    exact ⟨zNx_settle hM E B2 (zSt_tr s1 s2), fun q => absurd c q⟩
  · have e : zput h l r f n = zpt h l r n := if_neg c
    rw [e]
    exact ⟨⟨M, Nat.le_refl _, by omega, q1, q2⟩, fun _ => ⟨q3, q1⟩⟩
theorem e_get (hM : M ≤ 900000) (E : zEv h M) {l g r f n : Nat} (hl : l < 3) (hg : g < 8) (hr : r < 60) (hf : f < 3) (hn : n < 8) (hre : zisRef h (6 + (8 * l + g)) = true) (ht : h.2.2.2 (6 + (8 * l + g)) 5 = some (30 + 5 * r)) : zNx h M (zget h l r f n).2 0 ∧ ((zget h l r f n).1 ≠ 0 → zst (zget h l r f n).2 M = zst h M ∧ zEv (zget h l r f n).2 M) := by
  have e : h.1 (6 + (8 * l + g)) 0 = 116 := by
    unfold zisRef at hre
    rw [Bool.and_eq_true, decide_eq_true_iff] at hre
    exact hre.1
  obtain ⟨r', hr', e1, e2, -⟩ := (E.1.2.2.2.1 _ (show 8 * l + g < 24 by omega)).1 e
  rw [ht] at e1
  injection e1 with e1
  have rr : r' = r := by omega
  subst rr
  have v0 : zVW h 853 (zcp h 853 (32 + 5 * r' + f)) := zV_cp E.1.1 E.1.2.1 zS_853 (zS_tval r' hr f hf) ((E.1.2.2.2.2.1 r' hr e2).2 f hf).1
  have v : zVW h 853 (zgt h l r' f).2 := zVW_tr v0 (zV_cr v0.2.1 v0.2.2.1 zS_853 v0.2.2.2)
  obtain ⟨q1, q2, q3⟩ := zoff_Ev E v
  obtain ⟨B1, s1⟩ := zBI_853 E.1 v
  by_cases c : (zgt h l r' f).1 = 0
  · have e : zget h l r' f n = ((zgt h l r' f).1, zsettle (zstG (zgt h l r' f).2 l n 853)) := if_pos c
    rw [e]
    dsimp only
    obtain ⟨B2, s2⟩ := zBI_stG B1 hl hn v.2.2.2
    exact ⟨zNx_settle hM E B2 (zSt_tr s1 s2), fun q => absurd c q⟩
  · have e : zget h l r' f n = zgt h l r' f := if_neg c
    rw [e]
    exact ⟨⟨M, Nat.le_refl _, by omega, q1, q2⟩, fun _ => ⟨q3, q1⟩⟩
/-- make: the number is the last made one's -/
theorem zoff_note {h : zH} (hw : zWk h) {l : Int32} {k : Nat} (hk : zS k = (0, 6, 6)) : (znoteP h l k).2 = h.2 ∧ ∀ c s, ¬ (zTh c ∧ s = 3) → (znoteP h l k).1 c s = h.1 c s := by
  obtain ⟨a, -, -⟩ := znoteP_3 hw hk (l := l)
  exact a
theorem e_make (hM : M ≤ 900000) (E : zEv h M) {l g r : Nat} (hl : l < 3) (hg : g < 8) (hr : r < 60) (hnw : (znw h (nI l) 60 0).1 = some (30 + 5 * r)) : zNx h M (zsettle (zmk4 h l g r)) 0 ∧ (zsettle (zmk4 h l g r)).1 (30 + 5 * r) 0 = nI M ∧ (zsettle (zmk4 h l g r)).1 2 4 = nI (M + 1) := by
  obtain ⟨r', hr', e1, h0, e2⟩ := znw_some 60 0 rfl _ hnw
  have rr : r = r' := by omega
  subst rr
  have u : zmk4 h l g r = zstG (zbRef (znw h (nI l) 60 0).2 853 (30 + 5 * r)) l g 853 := rfl
  rw [u, e2]
  obtain ⟨w1, n1, H1, g1, s1, m1, p1, q1⟩ := znew_ok E.1.1 E.1.2.1 E.1.2.2.2 hr hl h0
  have B1 : zBI (znewH h r (nI l)) := ⟨w1, n1, zFn_st s1 E.1.2.2.1, H1⟩
  have v : zVW (znewH h r (nI l)) 853 (zbRef (znewH h r (nI l)) 853 (30 + 5 * r)) := zV_ref w1 n1 zS_853 hr p1
  obtain ⟨B2, s2⟩ := zBI_853 B1 v
  obtain ⟨B3, s3⟩ := zBI_stG B2 hl hg v.2.2.2
  have mn : (znewH h r (nI l)).1 2 4 = nI (M + 1) := by
    obtain ⟨-, -, oth, -⟩ := zbegT_ok (n := h.1 2 4) (l := nI l) E.1.1 E.1.2.1 hr
    have e : (znewH h r (nI l)).1 2 4 = (zbegT h r (h.1 2 4) (nI l)).1 2 4 + Int32.ofInt (Int.ofNat 1) := zupI_at
    rw [e, (oth 2 (by omega) (by omega) (by omega) (by omega)).1, E.2.2]
    exact nI_1 M
  generalize hA : znewH h r (nI l) = A at *
  generalize hB : zbRef A 853 (30 + 5 * r) = Bh at *
  have off : zoff Bh (zcp Bh (6 + (8 * l + g)) 853) (6 + (8 * l + g)) := zcp_off
  have hwc : zWk (zcp Bh (6 + (8 * l + g)) 853) := zK_cp B2.1 (zS_val24 (8 * l + g) (by omega)) zS_853
  obtain ⟨o1, o2⟩ := zoff_note hwc (l := nI l) zS_853
  have G : zstG Bh l g 853 = znoteP (zcp Bh (6 + (8 * l + g)) 853) (nI l) 853 := rfl
  have mk : (zstG Bh l g 853).1 2 4 = nI (M + 1) := by
    rw [G, o2 2 4 (fun q => zTh_2 q.1), (off 2 (by omega)).1, (v.1 2 (by decide)).1]
    exact mn
  have num : (zstG Bh l g 853).1 (30 + 5 * r) 0 = nI M := by
    rw [G, o2 _ 0 (fun q => by cases q.2), (off _ (by omega)).1, (v.1 _ (by omega)).1, q1]
    exact E.2.2
  have kd : (zstG Bh l g 853).1 (6 + (8 * l + g)) 0 = 116 := by
    rw [G, o2 _ 0 (fun q => by cases q.2), zcp_k0, ← hB]
    show (zbWhole A 853 116 (A.1 (30 + 5 * r) 0).toInt64).1 853 0 = 116
    exact zbWhole_k
  have rf : (zstG Bh l g 853).2.2.2 (6 + (8 * l + g)) 5 = some (30 + 5 * r) := by
    rw [G, o1, zcp_k5, ← hB]
    exact zupR_at
  obtain ⟨M', a, b, c, d, e, f⟩ := zev_settle hM E B3 (zSt_tr s1 (zSt_tr s2 s3))
  have MM : M' = M + 1 := by
    rw [mk] at c
    exact ((nI_eq (by omega) (by omega)).mp c).symm
  subst MM
  refine ⟨⟨M + 1, a, b, d, e⟩, ?_, d.2.2⟩
  have V := zVl_Se f
  have hk := zS_val24 (8 * l + g) (by omega)
  obtain ⟨r', hr', f1, f2, -⟩ := (d.1.2.2.2.1 _ (show 8 * l + g < 24 by omega)).1 (by rw [V.1 _ hk]; exact kd)
  rw [V.2.1 _ hk, rf] at f1
  have f1 := Option.some.inj f1
  have rr : r = r' := by omega
  subst rr
  rcases f.2.2 r hr with w | w
  · rw [w]
    exact num
  · exact absurd f2 (Int32.not_le.mpr w)
/-- a run -/
theorem e_run (hM : M ≤ 900000) (E : zEv h M) {g : zH} {i : Nat} (R : zRIn h g i) : zNx h M (zsettle g) 14000 ∧ (zsettle g).1 1 = g.1 1 ∧ (∃ d, zRun g d) := by
  obtain ⟨i9, T, s, d, r, st, ru⟩ := R
  have st := zSt_le st (show 14 * i ≤ 14000 by omega)
  have B : zBI g := ⟨r.1, r.2.1, r.2.2.1, r.2.2.2.1⟩
  obtain ⟨M', a, b, c, e1, e2, f⟩ := zev_settle hM E B st
  exact ⟨⟨M', a, b, e1, e2⟩, (zSe_St f).2.1, d, ru⟩
/-- a collection -/
theorem e_coll (hM : M ≤ 900000) (E : zEv h M) {b : Int32} : zNx h M (zfreeU h b) 0 ∧ 0 ≤ (zfreeU h b).1 2 5 - h.1 2 5 ∧ zEv (zfreeU h b) M := by
  obtain ⟨B, S, big, one, m, l, V, sub⟩ := zfreeU_ok (b := b) (M := M) (by omega) E.1 E.2.2
  have E' : zEv (zfreeU h b) M := ⟨B, S, m.trans E.2.2⟩
  refine ⟨⟨M, Nat.le_refl _, by omega, E', fun c h1 h2 => big c (by omega), by rw [one], 0, Nat.le_refl _, by rw [l, show Int64.ofNat 0 = 0 from rfl, Int64.add_zero]⟩, zfreed_up (M := M) (by omega) E.1.2.2.2.2.2.2 B.2.2.2.2.2.2 E.2.2 E'.2.2 sub, E'⟩
end ZCA
