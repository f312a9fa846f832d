/-! what the tally counts -/
def zTE (g h : zH) : Prop := g.2 = h.2 ∧ ∀ c s, ¬ (s = 4 ∧ zTh c) → g.1 c s = h.1 c s
theorem zTE_refl {h : zH} : zTE h h := ⟨rfl, fun _ _ _ => rfl⟩
theorem zTE_tr {g h k : zH} (a : zTE g h) (b : zTE h k) : zTE g k := ⟨a.1.trans b.1, fun c s q => (a.2 c s q).trans (b.2 c s q)⟩
theorem zTE_sy {g h : zH} (a : zTE g h) : zTE h g := ⟨a.1.symm, fun c s q => (a.2 c s q).symm⟩
theorem zTE_4 {h : zH} {t : Nat} {x : Int32} (ht : zTh t) : zTE (zupI h t 4 x) h := ⟨rfl, fun c s q => zupI_ne (fun w => q ⟨w.2, w.1 ▸ ht⟩)⟩
theorem zTE_0 {g h : zH} (e : zTE g h) {c s : Nat} (hs : s ≠ 4) : g.1 c s = h.1 c s := e.2 c s (fun q => hs q.1)
theorem zTE_R {g h : zH} (e : zTE g h) : g.2.2.2 = h.2.2.2 := congrArg (fun z => z.2.2) e.1
theorem zTE_ref {g h : zH} (e : zTE g h) {k : Nat} : zisRef g k = zisRef h k := by
  unfold zisRef
  rw [zTE_0 e (by decide), zTE_R e]
theorem zTE_of {g h : zH} (e : zTE g h) {t : Nat} {w : Int32} : zisOf g t w = zisOf h t w := by
  unfold zisOf
  rw [zTE_0 e (by decide), zTE_0 e (by decide)]
/-- one holder of a reference to t -/
def zn1 (h : zH) (k t : Nat) : Nat := if zisRef h k = true ∧ h.2.2.2 k 5 = some t then 1 else 0
theorem zTE_n1 {g h : zH} (e : zTE g h) {k t : Nat} : zn1 g k t = zn1 h k t := by
  unfold zn1
  rw [zTE_ref e, zTE_R e]
theorem zTE_addIn {h : zH} (hS : zShp h.2.2.2) {k : Nat} {c : Int32} (hk : zS k = (0, 6, 6)) : zTE (zaddIn h k c) h := by
  unfold zaddIn
  split
  · split
    · exact zTE_refl
    · rename_i t ht
      exact zTE_4 (hS.2.1 k hk t ht)
  · exact zTE_refl
theorem zaddIn_4 {h : zH} {k t : Nat} {c : Int32} : (zaddIn h k c).1 t 4 = h.1 t 4 + c * nI (zn1 h k t) := by
  have z : h.1 t 4 = h.1 t 4 + c * nI 0 := by rw [show nI 0 = 0 from rfl, Int32.mul_zero, Int32.add_zero]
  unfold zaddIn zn1
  split
  · rename_i hr
    split
    · rename_i hq
      rw [if_neg (fun q => by rw [hq] at q; cases q.2)]
      exact z
    · rename_i t' hq
      by_cases e : t' = t
      · subst e
        rw [if_pos ⟨hr, hq⟩, zupI_at, show nI 1 = 1 from rfl, Int32.mul_one]
      · rw [if_neg (fun q => by rw [hq] at q; injection q.2 with w; exact e w), zupI_ne (fun q => e q.1.symm)]
        exact z
  · rename_i hr
    rw [if_neg (fun q => hr q.1)]
    exact z
def zkF (h : zH) (r t : Nat) : Nat → Nat → Nat
  | 0, _ => 0
  | m + 1, i => zn1 h (32 + 5 * r + i) t + zkF h r t m (i + 1)
def zkG (h : zH) (t : Nat) : Nat → Nat → Nat
  | 0, _ => 0
  | m + 1, i => zn1 h (6 + i) t + zkG h t m (i + 1)
def zkT1 (h : zH) (t i : Nat) : Nat := if zisOf h (30 + 5 * i) 0 = true then zkF h i t 3 0 else 0
def zkT (h : zH) (t : Nat) : Nat → Nat → Nat
  | 0, _ => 0
  | m + 1, i => zkT1 h t i + zkT h t m (i + 1)
def zkN (h : zH) (t : Nat) : Nat := zkG h t 8 0 + zkT h t 60 0
theorem zTE_kF {g h : zH} (e : zTE g h) {r t : Nat} : ∀ m i, zkF g r t m i = zkF h r t m i
  | 0, _ => rfl
  | m + 1, i => by unfold zkF; rw [zTE_n1 e, zTE_kF e m (i + 1)]
theorem zTE_kG {g h : zH} (e : zTE g h) {t : Nat} : ∀ m i, zkG g t m i = zkG h t m i
  | 0, _ => rfl
  | m + 1, i => by unfold zkG; rw [zTE_n1 e, zTE_kG e m (i + 1)]
theorem zTE_kT1 {g h : zH} (e : zTE g h) {t i : Nat} : zkT1 g t i = zkT1 h t i := by
  unfold zkT1
  rw [zTE_of e, zTE_kF e]
theorem zTE_kT {g h : zH} (e : zTE g h) {t : Nat} : ∀ m i, zkT g t m i = zkT h t m i
  | 0, _ => rfl
  | m + 1, i => by unfold zkT; rw [zTE_kT1 e, zTE_kT e m (i + 1)]
theorem zTE_kN {g h : zH} (e : zTE g h) {t : Nat} : zkN g t = zkN h t := by
  unfold zkN
  rw [zTE_kG e, zTE_kT e]
theorem zmulN (c : Int32) (a b : Nat) : c * nI (a + b) = c * nI a + c * nI b := by
  rw [← nI_add, Int32.mul_add]
theorem zaddF_4 {r t : Nat} (hr : r < 60) {c : Int32} : ∀ (m i : Nat) (h : zH), i + m = 3 → zShp h.2.2.2 → zTE (zaddF r c m i h) h ∧ (zaddF r c m i h).1 t 4 = h.1 t 4 + c * nI (zkF h r t m i)
  | 0, _, h, _, _ => ⟨zTE_refl, by unfold zaddF zkF; rw [show nI 0 = 0 from rfl, Int32.mul_zero, Int32.add_zero]⟩
  | m + 1, i, h, e, hS => by
    have a := zTE_addIn (c := c) hS (zS_tval r hr i (by omega))
    obtain ⟨b1, b2⟩ := zaddF_4 hr (t := t) (c := c) m (i + 1) (zaddIn h (32 + 5 * r + i) c) (by omega) (by rw [zaddIn_RR]; exact hS)
    refine ⟨zTE_tr b1 a, ?_⟩
    show (zaddF r c m (i + 1) (zaddIn h (32 + 5 * r + i) c)).1 t 4 = h.1 t 4 + c * nI (zn1 h (32 + 5 * r + i) t + zkF h r t m (i + 1))
    rw [b2, zaddIn_4, zTE_kF a, zmulN, Int32.add_assoc]
theorem ztg_4 {t : Nat} : ∀ (m i : Nat) (h : zH), i + m = 8 → zShp h.2.2.2 → zTE (ztg m i h) h ∧ (ztg m i h).1 t 4 = h.1 t 4 + nI (zkG h t m i)
  | 0, _, h, _, _ => ⟨zTE_refl, by unfold ztg zkG; rw [show nI 0 = 0 from rfl, Int32.add_zero]⟩
  | m + 1, i, h, e, hS => by
    have a := zTE_addIn (c := Int32.ofInt (Int.ofNat 1)) hS (zS_val24 i (by omega))
    obtain ⟨b1, b2⟩ := ztg_4 (t := t) m (i + 1) (zaddIn h (6 + i) (Int32.ofInt (Int.ofNat 1))) (by omega) (by rw [zaddIn_RR]; exact hS)
    refine ⟨zTE_tr b1 a, ?_⟩
    show (ztg m (i + 1) (zaddIn h (6 + i) (Int32.ofInt (Int.ofNat 1)))).1 t 4 = h.1 t 4 + nI (zn1 h (6 + i) t + zkG h t m (i + 1))
    rw [b2, zaddIn_4, zTE_kG a, ← nI_add, show Int32.ofInt (Int.ofNat 1) = 1 from rfl, Int32.one_mul, Int32.add_assoc]
theorem zth1_4 {t i : Nat} (hi : i < 60) {h : zH} (hS : zShp h.2.2.2) : zTE (zth1 h i) h ∧ (zth1 h i).1 t 4 = h.1 t 4 + nI (zkT1 h t i) := by
  unfold zth1 zkT1
  split
  · rename_i hc
    rw [if_pos (show zisOf h (30 + 5 * i) 0 = true from hc)]
    obtain ⟨a, b⟩ := zaddF_4 hi (t := t) (c := Int32.ofInt (Int.ofNat 1)) 3 0 h rfl hS
    exact ⟨a, by rw [b, show Int32.ofInt (Int.ofNat 1) = 1 from rfl, Int32.one_mul]⟩
  · rename_i hc
    rw [if_neg (show ¬ zisOf h (30 + 5 * i) 0 = true from hc)]
    exact ⟨zTE_refl, by rw [show nI 0 = 0 from rfl, Int32.add_zero]⟩
theorem zth_4 {t : Nat} : ∀ (m i : Nat) (h : zH), i + m = 60 → zShp h.2.2.2 → zTE (zth m i h) h ∧ (zth m i h).1 t 4 = h.1 t 4 + nI (zkT h t m i)
  | 0, _, h, _, _ => ⟨zTE_refl, by unfold zth zkT; rw [show nI 0 = 0 from rfl, Int32.add_zero]⟩
  | m + 1, i, h, e, hS => by
    obtain ⟨a1, a2⟩ := zth1_4 (t := t) (i := i) (by omega) hS
    obtain ⟨b1, b2⟩ := zth_4 (t := t) m (i + 1) (zth1 h i) (by omega) (by rw [zTE_R a1]; exact hS)
    refine ⟨zTE_tr b1 a1, ?_⟩
    show (zth m (i + 1) (zth1 h i)).1 t 4 = h.1 t 4 + nI (zkT1 h t i + zkT h t m (i + 1))
    rw [b2, a2, zTE_kT a1, ← nI_add, Int32.add_assoc]
theorem zclr_4 : ∀ (m i : Nat) (h : zH), i + m = 60 → zTE (zclr m i h) h ∧ ∀ r, r < 60 → i ≤ r → (zclr m i h).1 (30 + 5 * r) 4 = 0
  | 0, i, h, e => ⟨zTE_refl, fun r _ _ => by omega⟩
  | m + 1, i, h, e => by
    obtain ⟨b1, b2⟩ := zclr_4 m (i + 1) (zupI h (30 + 5 * i) 4 (Int32.ofInt (Int.ofNat 0))) (by omega)
    refine ⟨zTE_tr b1 (zTE_4 ⟨i, by omega, rfl⟩), fun r hr hi => ?_⟩
    by_cases q : i + 1 ≤ r
    · exact b2 r hr q
    · obtain rfl : r = i := by omega
      show (zclr m (r + 1) (zupI h (30 + 5 * r) 4 (Int32.ofInt (Int.ofNat 0)))).1 (30 + 5 * r) 4 = 0
      have : ∀ (m j : Nat) (g : zH), r < j → (zclr m j g).1 (30 + 5 * r) 4 = g.1 (30 + 5 * r) 4 := by
        intro m
        induction m with
        | zero => intro j g _; rfl
        | succ m ih =>
          intro j g hj
          show (zclr m (j + 1) (zupI g (30 + 5 * j) 4 (Int32.ofInt (Int.ofNat 0)))).1 (30 + 5 * r) 4 = _
          rw [ih (j + 1) _ (by omega), zupI_ne (fun q => by omega)]
      rw [this m (r + 1) _ (by omega), zupI_at]
      rfl
theorem ztally_TE {h : zH} (hS : zShp h.2.2.2) : zTE (ztally h) h := by
  have a := (zclr_4 60 0 h rfl).1
  have b := (ztg_4 (t := 0) 8 0 (zclr 60 0 h) rfl (by rw [zTE_R a]; exact hS)).1
  have c := (zth_4 (t := 0) 60 0 (ztg 8 0 (zclr 60 0 h)) rfl (by rw [zTE_R b, zTE_R a]; exact hS)).1
  exact zTE_tr c (zTE_tr b a)
theorem ztally_4 {h : zH} (hS : zShp h.2.2.2) {r : Nat} (hr : r < 60) : (ztally h).1 (30 + 5 * r) 4 = nI (zkN h (30 + 5 * r)) := by
  obtain ⟨a, a4⟩ := zclr_4 60 0 h rfl
  obtain ⟨b, b4⟩ := ztg_4 (t := 30 + 5 * r) 8 0 (zclr 60 0 h) rfl (by rw [zTE_R a]; exact hS)
  obtain ⟨c, c4⟩ := zth_4 (t := 30 + 5 * r) 60 0 (ztg 8 0 (zclr 60 0 h)) rfl (by rw [zTE_R b, zTE_R a]; exact hS)
  unfold ztally zkN
  rw [c4, b4, a4 r hr (Nat.zero_le _), Int32.zero_add, zTE_kG a, zTE_kT (zTE_tr b a), nI_add]
theorem zn1_le {h : zH} {k t : Nat} : zn1 h k t ≤ 1 := by
  unfold zn1
  split <;> omega
theorem zkF_le {h : zH} {r t : Nat} : ∀ m i, zkF h r t m i ≤ m
  | 0, _ => Nat.le_refl _
  | m + 1, i => by
    have a := zn1_le (h := h) (k := 32 + 5 * r + i) (t := t)
    have b := zkF_le (h := h) (r := r) (t := t) m (i + 1)
    show zn1 h (32 + 5 * r + i) t + zkF h r t m (i + 1) ≤ m + 1
    omega
theorem zkG_le {h : zH} {t : Nat} : ∀ m i, zkG h t m i ≤ m
  | 0, _ => Nat.le_refl _
  | m + 1, i => by
    have a := zn1_le (h := h) (k := 6 + i) (t := t)
    have b := zkG_le (h := h) (t := t) m (i + 1)
    show zn1 h (6 + i) t + zkG h t m (i + 1) ≤ m + 1
    omega
theorem zkT1_le {h : zH} {t i : Nat} : zkT1 h t i ≤ 3 := by
  unfold zkT1
  split
  · exact zkF_le 3 0
  · omega
theorem zkT_le {h : zH} {t : Nat} : ∀ m i, zkT h t m i ≤ 3 * m
  | 0, _ => Nat.le_refl _
  | m + 1, i => by
    have a := zkT1_le (h := h) (t := t) (i := i)
    have b := zkT_le (h := h) (t := t) m (i + 1)
    show zkT1 h t i + zkT h t m (i + 1) ≤ 3 * (m + 1)
    omega
theorem zkN_le {h : zH} {t : Nat} : zkN h t ≤ 188 := by
  have a := zkG_le (h := h) (t := t) 8 0
  have b := zkT_le (h := h) (t := t) 60 0
  unfold zkN
  omega
/-- the count of a thing -/
def zow (h : zH) (t : Nat) : Nat := zkN h t + (if h.1 t 1 = 0 ∧ ¬ h.1 t 3 = 0 then 1 else 0)
theorem zow_le {h : zH} {t : Nat} : zow h t ≤ 189 := by
  have a := zkN_le (h := h) (t := t)
  unfold zow
  split <;> omega
theorem zTE_ow {g h : zH} (e : zTE g h) {t : Nat} : zow g t = zow h t := by
  unfold zow
  rw [zTE_kN e, zTE_0 e (by decide), zTE_0 e (by decide)]
/-- the counts are noted -/
def zTl (h : zH) : Prop := ∀ r, r < 60 → h.1 (30 + 5 * r) 4 = nI (zkN h (30 + 5 * r))
theorem zTl_tally {h : zH} (hS : zShp h.2.2.2) : zTl (ztally h) := fun r hr => by rw [ztally_4 hS hr, zTE_kN (ztally_TE hS)]
theorem zown_ow {h : zH} (T : zTl h) {r : Nat} (hr : r < 60) : zown h (30 + 5 * r) = nI (zow h (30 + 5 * r)) := by
  unfold zown zow
  rw [T r hr]
  split
  · rw [← nI_add, show nI 1 = 1 from rfl]
  · rw [Nat.add_zero, Int32.add_zero]
theorem zown_t {h : zH} (hS : zShp h.2.2.2) {r : Nat} (hr : r < 60) : zown (ztally h) (30 + 5 * r) = nI (zow h (30 + 5 * r)) := by
  rw [zown_ow (zTl_tally hS) hr, zTE_ow (ztally_TE hS)]
theorem zTE_ints {g h : zH} (e : zTE g h) (h4 : ∀ r, r < 60 → g.1 (30 + 5 * r) 4 = h.1 (30 + 5 * r) 4) : g = h := by
  obtain ⟨gi, g2⟩ := g
  obtain ⟨hi, h2⟩ := h
  obtain ⟨e1, e2⟩ := e
  have e1 : g2 = h2 := e1
  subst e1
  refine Prod.ext (funext fun c => funext fun s => ?_) rfl
  by_cases q : s = 4 ∧ zTh c
  · obtain ⟨rfl, r, hr, rfl⟩ := q
    exact h4 r hr
  · exact e2 c s q
/-- a tally of what differs in the noted counts alone -/
theorem zTE_tally {g h : zH} (e : zTE g h) (hS : zShp h.2.2.2) : ztally g = ztally h := by
  have hSg : zShp g.2.2.2 := by rw [zTE_R e]; exact hS
  refine zTE_ints (zTE_tr (zTE_tr (ztally_TE hSg) e) (zTE_sy (ztally_TE hS))) fun r hr => ?_
  rw [ztally_4 hSg hr, ztally_4 hS hr, zTE_kN e]
theorem zTE_fnd {g h : zH} (e : zTE g h) {n : Int32} : ∀ m i, zfnd g n m i = zfnd h n m i
  | 0, _ => rfl
  | m + 1, i => by
    unfold zfnd
    rw [zTE_0 e (by decide), zTE_fnd e m (i + 1)]
theorem zTE_Wk {g h : zH} (e : zTE g h) (hw : zWk h) : zWk g := by
  obtain ⟨a, b1, b2, b3, b4⟩ := hw
  have E : ∀ c s, s ≠ 4 → g.1 c s = h.1 c s := fun c s hs => zTE_0 e hs
  refine ⟨by rw [zTE_R e]; exact a, fun k hk => ?_, fun k hk => ?_, fun k hk => ?_, ?_⟩
  · rw [E k 0 (by decide), E k 2 (by decide)]
    exact b1 k hk
  · rw [E k 3 (by decide), E k 5 (by decide)]
    exact b2 k hk
  · rw [E k 8 (by decide)]
    exact b3 k hk
  · rw [E 1 9 (by decide)]
    exact b4
theorem zTE_n {g h : zH} (e : zTE g h) {c : Nat} (hc : ¬ zTh c) : g.1 c = h.1 c := funext fun s => e.2 c s (fun q => hc q.2)
