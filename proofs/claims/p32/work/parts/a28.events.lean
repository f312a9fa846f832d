/-! between the law's events -/
def zEv (h : zH) (M : Nat) : Prop := zBI h ∧ zSd h ∧ h.1 2 4 = nI M
/-- what an event keeps; n crossings at most -/
def zEff (h h' : zH) (n : Nat) : Prop := (∀ c, 750 < c → (c < 781 ∨ c = 854) → h'.1 c = h.1 c) ∧ h'.1 1 2 = h.1 1 2 ∧ ∃ m, m ≤ n ∧ h'.2.1 1 8 = h.2.1 1 8 + Int64.ofNat m
theorem zEff_refl {h : zH} {n : Nat} : zEff h h n := ⟨fun _ _ _ => rfl, rfl, 0, Nat.zero_le _, by rw [show Int64.ofNat 0 = 0 from rfl, Int64.add_zero]⟩
theorem zEff_St {h h' : zH} {n : Nat} (s : zSt h h' n) : zEff h h' n := by
  obtain ⟨m, a, b, -⟩ := s.2.2.2.2
  exact ⟨s.1, s.2.1, m, a, b⟩
theorem zTE_BI {g h : zH} (e : zTE g h) (B : zBI h) : zBI g := by
  obtain ⟨hw, hn, hf, H⟩ := B
  refine ⟨zTE_Wk e hw, fun k hk => ?_, ⟨fun j hj => ?_, ?_⟩, zHI_TE e hw H⟩
  · rw [show g.2.2.1 = h.2.2.1 from congrArg (fun z => z.2.1) e.1]
    exact hn k hk
  · rw [zTE_n e (fun q => by have := zTh_ge q; omega)]
    exact hf.1 j hj
  · rw [zTE_n e zTh_1]
    exact hf.2
theorem zTE_Sd {g h : zH} (e : zTE g h) (S : zSd h) : zSd g := fun r hr q => by
  rw [zTE_ow e]
  rw [zTE_of e] at q
  exact S r hr q
theorem zTE_Ev {g h : zH} {M : Nat} (e : zTE g h) (E : zEv h M) : zEv g M := ⟨zTE_BI e E.1, zTE_Sd e E.2.1, by rw [zTE_n e zTh_2]; exact E.2.2⟩
theorem zlv_mono {h g : zH} (s : ∀ r, r < 60 → g.1 (30 + 5 * r) 0 = h.1 (30 + 5 * r) 0 ∨ g.1 (30 + 5 * r) 0 < 0) : ∀ n, n ≤ 60 → zlv g n ≤ zlv h n
  | 0, _ => Nat.le_refl _
  | n + 1, e => by
    have ih := zlv_mono s n (by omega)
    have c : zlv h (n + 1) = zlv h n + (if 0 ≤ h.1 (30 + 5 * n) 0 then 1 else 0) := rfl
    have c' : zlv g (n + 1) = zlv g n + (if 0 ≤ g.1 (30 + 5 * n) 0 then 1 else 0) := rfl
    rw [c, c']
    rcases s n (by omega) with q | q
    · rw [q]
      omega
    · rw [if_neg (Int32.not_le.mpr q)]
      omega
/-- how many are freed, where things are only freed -/
theorem zfreed_up {h g : zH} {M : Nat} (hM : M ≤ 1000000) (C : zCnt h) (C' : zCnt g) (hm : h.1 2 4 = nI M) (hm' : g.1 2 4 = nI M) (s : ∀ r, r < 60 → g.1 (30 + 5 * r) 0 = h.1 (30 + 5 * r) 0 ∨ g.1 (30 + 5 * r) 0 < 0) : 0 ≤ g.1 2 5 - h.1 2 5 := by
  obtain ⟨F, hF, d1, d2⟩ := C
  obtain ⟨F', hF', d1', d2'⟩ := C'
  have l := zlv_mono s 60 (Nat.le_refl _)
  have l60 := zlv_le (h := h) 60
  have l60' := zlv_le (h := g) 60
  rw [hm] at d2
  rw [hm'] at d2'
  have a := (nI_eq (by omega) (by omega)).mp d2
  have a' := (nI_eq (by omega) (by omega)).mp d2'
  rw [d1, d1', zsubL (by omega)]
  exact nI_pos' (by omega)
/-- settle, behind a step that keeps what zSt says -/
theorem zev_settle {h g : zH} {M n : Nat} (hM : M ≤ 900000) (E : zEv h M) (B : zBI g) (s : zSt h g n) : ∃ M', M ≤ M' ∧ M' ≤ M + 60 ∧ g.1 2 4 = nI M' ∧ zEv (zsettle g) M' ∧ zEff h (zsettle g) n ∧ zSe g (zsettle g) := by
  obtain ⟨F, hF, d1, d2⟩ := E.1.2.2.2.2.2.2
  obtain ⟨F', hF', d1', d2'⟩ := B.2.2.2.2.2.2
  have l60 := zlv_le (h := h) 60
  have l60' := zlv_le (h := g) 60
  have hm := E.2.2
  rw [hm] at d2
  have a := (nI_eq (by omega) (by omega)).mp d2
  have f : F' = F := by
    have e := s.2.2.1
    rw [d1, d1'] at e
    exact (nI_eq (by omega) (by omega)).mp e
  have mono := s.2.2.2.1
  rw [hm, d2', nI_toInt (by omega), nI_toInt (by omega)] at mono
  have M' : F' + zlv g 60 ≤ M + 60 := by omega
  obtain ⟨s1, s2, s3, s4⟩ := zsettle_ok (h := g) (M := F' + zlv g 60) (by omega) B.1 B.2.2.2 d2'
  obtain ⟨t1, t2, t3, t4⟩ := zSe_St s4
  refine ⟨F' + zlv g 60, by omega, M', d2', ⟨zSe_BI s4 B s1 s2, s3, t3.trans d2'⟩, ⟨fun c h1 h2 => (t1 c (by omega)).trans (s.1 c h1 h2), by rw [t2]; exact s.2.1, ?_⟩, s4⟩
  obtain ⟨m, hm1, hm2, -⟩ := s.2.2.2.2
  exact ⟨m, hm1, by rw [t4]; exact hm2⟩
section ZEV
variable {h h' : zH} {M : Nat}
theorem zBI_853 (B : zBI h) (v : zVW h 853 h') : zBI h' ∧ zSt h h' 0 := by
  have s := zSt_vw zS_853 v
  exact ⟨⟨v.2.1, v.2.2.1, zFn_st s B.2.2.1, zHI_q B.1 (zHq_off v.1 (by decide) (Or.inr (by decide))) B.2.2.2⟩, s⟩
theorem zBI_stG {l g : Nat} (B : zBI h) (hl : l < 3) (hg : g < 8) (gd : zGd h 853) : zBI (zstG h l g 853) ∧ zSt h (zstG h l g 853) 0 := by
  obtain ⟨a, b, c, e, f, g⟩ := zstG_ok B.1 B.2.1 B.2.2.2 hl hg zS_853 (by decide) gd
  exact ⟨⟨a, b, zFn_st f B.2.2.1, c⟩, f⟩
theorem zBI_stF {r f : Nat} (B : zBI h) (hr : r < 60) (hf : f < 3) (gd : zGd h 853) : zBI (zstF h r f 853) ∧ zSt h (zstF h r f 853) 0 := by
  obtain ⟨a, b, c, e, f, g⟩ := zstF_ok B.1 B.2.1 B.2.2.2 hr hf zS_853 (by decide) gd
  exact ⟨⟨a, b, zFn_st f B.2.2.1, c⟩, f⟩
/-- the counts under a write to the carrier -/
theorem zoff_n1 (o : zoff h h' 853) {k t : Nat} (hk : k < 330) : zn1 h' k t = zn1 h k t := by
  unfold zn1 zisRef
  rw [(o k (by omega)).1, (o k (by omega)).2.2.2]
theorem zoff_kG (o : zoff h h' 853) {t : Nat} : ∀ m i, i + m ≤ 8 → zkG h' t m i = zkG h t m i
  | 0, _, _ => rfl
  | m + 1, i, e => by unfold zkG; rw [zoff_n1 o (by omega), zoff_kG o m (i + 1) (by omega)]
theorem zoff_kF (o : zoff h h' 853) {r t : Nat} (hr : r < 60) : ∀ m i, i + m ≤ 3 → zkF h' r t m i = zkF h r t m i
  | 0, _, _ => rfl
  | m + 1, i, e => by unfold zkF; rw [zoff_n1 o (by omega), zoff_kF o hr m (i + 1) (by omega)]
theorem zoff_of (o : zoff h h' 853) {r : Nat} {w : Int32} (hr : r < 60) : zisOf h' (30 + 5 * r) w = zisOf h (30 + 5 * r) w := by
  unfold zisOf
  rw [(o _ (by omega)).1]
theorem zoff_kT (o : zoff h h' 853) {t : Nat} : ∀ m i, i + m ≤ 60 → zkT h' t m i = zkT h t m i
  | 0, _, _ => rfl
  | m + 1, i, e => by
    have a : zkT1 h' t i = zkT1 h t i := by
      unfold zkT1
      rw [zoff_of o (by omega), zoff_kF o (by omega) 3 0 (by omega)]
    unfold zkT
    rw [a, zoff_kT o m (i + 1) (by omega)]
theorem zoff_kN (o : zoff h h' 853) {t : Nat} : zkN h' t = zkN h t := by
  unfold zkN
  rw [zoff_kG o 8 0 (by omega), zoff_kT o 60 0 (by omega)]
theorem zoff_ow (o : zoff h h' 853) {r : Nat} (hr : r < 60) : zow h' (30 + 5 * r) = zow h (30 + 5 * r) := by
  unfold zow
  rw [zoff_kN o, (o _ (by omega)).1]
theorem zoff_fnd (o : zoff h h' 853) {n : Int32} : ∀ m i, i + m ≤ 60 → zfnd h' n m i = zfnd h n m i
  | 0, _, _ => rfl
  | m + 1, i, e => by
    unfold zfnd
    rw [(o _ (by omega)).1, zoff_fnd o m (i + 1) (by omega)]
theorem zfnd_tr {n : Int32} : ∀ m i, i + m ≤ 60 → ∀ t, zfnd h n m i = some t → zTh t
  | 0, _, _, _, q => by cases q
  | m + 1, i, e, t, q => by
    unfold zfnd at q
    split at q
    · injection q with q
      exact ⟨i, by omega, q.symm⟩
    · exact zfnd_tr m (i + 1) (by omega) t q
theorem zoff_couA (o : zoff h h' 853) (hS : zShp h.2.2.2) (hS' : zShp h'.2.2.2) {n : Int32} : zcouA h' n = zcouA h n := by
  unfold zcouA
  rw [zoff_fnd o 60 0 (by omega)]
  cases hq : zfnd h n 60 0 with
  | none => rfl
  | some t =>
    obtain ⟨r, hr, rfl⟩ := zfnd_tr 60 0 (by omega) t hq
    show zown (ztally h') (30 + 5 * r) = zown (ztally h) (30 + 5 * r)
    rw [zown_t hS hr, zown_t hS' hr, zoff_ow o hr]
theorem zheld_t (hS : zShp h.2.2.2) {r : Nat} (hr : r < 60) : zheld (ztally h) (30 + 5 * r) = if h.1 (30 + 5 * r) 1 = 0 then h.1 (30 + 5 * r) 3 else zB (decide (0 < nI (zkN h (30 + 5 * r)))) := by
  unfold zheld
  rw [ztally_4 hS hr, zTE_0 (ztally_TE hS) (by decide), zTE_0 (ztally_TE hS) (by decide)]
theorem zoff_helA (o : zoff h h' 853) (hS : zShp h.2.2.2) (hS' : zShp h'.2.2.2) {n : Int32} : zhelA h' n = zhelA h n := by
  unfold zhelA
  rw [zoff_fnd o 60 0 (by omega)]
  cases hq : zfnd h n 60 0 with
  | none => rfl
  | some t =>
    obtain ⟨r, hr, rfl⟩ := zfnd_tr 60 0 (by omega) t hq
    show (if zheld (ztally h') (30 + 5 * r) = 0 then (0 : Int32) else 1) = if zheld (ztally h) (30 + 5 * r) = 0 then 0 else 1
    rw [zheld_t hS hr, zheld_t hS' hr, zoff_kN o, (o _ (by omega)).1]
theorem zoff_numA (o : zoff h h' 853) {k : Nat} (hk : k ≠ 853) : znumA h' k = znumA h k := by
  unfold znumA zisNR ztold zasD zisRef
  rw [(o k hk).1, (o k hk).2.1, (o k hk).2.2.1, (o k hk).2.2.2]
theorem zoff_sG (o : zoff h h' 853) : ∀ m i x, i + m ≤ 24 → zsG h' m i x = zsG h m i x
  | 0, _, _, _ => rfl
  | m + 1, i, x, e => by
    unfold zsG
    rw [(o (6 + i) (by omega)).1, zoff_numA o (by omega), zoff_sG o m (i + 1) _ (by omega)]
theorem zoff_sT (o : zoff h h' 853) (hS : zShp h.2.2.2) (hS' : zShp h'.2.2.2) : ∀ m i x, zsT h' m i x = zsT h m i x
  | 0, _, _ => rfl
  | m + 1, i, x => by
    unfold zsT
    rw [zoff_couA o hS hS', zoff_helA o hS hS', zoff_sT o hS hS' m (i + 1)]
theorem zoff_st (o : zoff h h' 853) (hS : zShp h.2.2.2) (hS' : zShp h'.2.2.2) : zst h' M = zst h M := by
  unfold zst
  rw [zoff_sG o 24 0 _ (by omega), zoff_sT o hS hS', (o 2 (by decide)).1, (o 1 (by decide)).2.1]
theorem zTE_sG {g : zH} (e : zTE g h) : ∀ m i x, i + m ≤ 24 → zsG g m i x = zsG h m i x
  | 0, _, _, _ => rfl
  | m + 1, i, x, q => by
    have a : znumA g (6 + i) = znumA h (6 + i) := by
      unfold znumA zisNR ztold zasD
      rw [zTE_0 e (by decide), zTE_0 e (by decide), zTE_ref e, e.1]
    unfold zsG
    rw [zTE_0 e (by decide), a, zTE_sG e m (i + 1) _ (by omega)]
theorem zTE_sT {g : zH} (e : zTE g h) (hS : zShp h.2.2.2) : ∀ m i x, zsT g m i x = zsT h m i x
  | 0, _, _ => rfl
  | m + 1, i, x => by
    unfold zsT
    rw [zTE_couA e hS, zTE_helA e hS, zTE_sT e hS m (i + 1)]
theorem zTE_st {g : zH} (e : zTE g h) (hS : zShp h.2.2.2) : zst g M = zst h M := by
  unfold zst
  rw [zTE_sG e 24 0 _ (by omega), zTE_sT e hS, zTE_n e zTh_2, e.1]
theorem zoff_Ev (E : zEv h M) (v : zVW h 853 h') : zEv h' M ∧ zEff h h' 0 ∧ zst h' M = zst h M := by
  obtain ⟨B, s⟩ := zBI_853 E.1 v
  refine ⟨⟨B, fun r hr q => ?_, ?_⟩, zEff_St s, zoff_st v.1 E.1.1.1 B.1.1⟩
  · rw [zoff_ow v.1 hr]
    rw [zoff_of v.1 hr] at q
    exact E.2.1 r hr q
  · rw [(v.1 2 (by decide)).1]
    exact E.2.2
end ZEV
