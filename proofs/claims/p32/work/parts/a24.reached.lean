/-! what is reached -/
/-- all but the marks of what is reached, and the row of what is pending -/
def zQ5 (h g : zH) : Prop := g.2.1 = h.2.1 ∧ g.2.2.1 = h.2.2.1 ∧ (∀ c, c ≠ 5 → g.2.2.2 c = h.2.2.2 c) ∧ ∀ c s, ¬ (zTh c ∧ s = 5) → ¬ (c = 2 ∧ s = 3) → g.1 c s = h.1 c s
theorem zQ5_refl {h : zH} : zQ5 h h := ⟨rfl, rfl, fun _ _ => rfl, fun _ _ _ _ => rfl⟩
theorem zQ5_tr {h g k : zH} (a : zQ5 h g) (b : zQ5 g k) : zQ5 h k := ⟨b.1.trans a.1, b.2.1.trans a.2.1, fun c hc => (b.2.2.1 c hc).trans (a.2.2.1 c hc), fun c s p q => (b.2.2.2 c s p q).trans (a.2.2.2 c s p q)⟩
theorem zQ5_th {h g : zH} (a : zQ5 h g) {r s : Nat} (h5 : s ≠ 5) : g.1 (30 + 5 * r) s = h.1 (30 + 5 * r) s := a.2.2.2 _ s (fun q => h5 q.2) (fun q => by omega)
theorem zQ5_v {h g : zH} (a : zQ5 h g) {k s : Nat} (hk : zS k = (0, 6, 6)) : g.1 k s = h.1 k s := a.2.2.2 k s (fun q => by have e := zTh_S q.1; rw [hk] at e; cases e) (fun q => zne_o hk zS_2 (by omega) q.1)
theorem zQ5_r {h g : zH} (a : zQ5 h g) {k s : Nat} (hk : zS k = (0, 6, 6)) : g.2.2.2 k s = h.2.2.2 k s := by rw [a.2.2.1 k (zne_o hk zS_5 (by omega))]
/-- value k refers to room r, and this is followed -/
def zed (h : zH) (b : Int32) (k r : Nat) : Prop := r < 60 ∧ h.1 k 0 = 116 ∧ h.2.2.2 k 5 = some (30 + 5 * r) ∧ (b ≠ 0 ∨ h.1 (30 + 5 * r) 1 ≠ 0)
theorem zed_Q {h g : zH} (a : zQ5 h g) {b : Int32} {k r : Nat} (hk : zS k = (0, 6, 6)) : zed g b k r ↔ zed h b k r := by
  unfold zed
  rw [zQ5_v a hk, zQ5_r a hk, zQ5_th a (by decide)]
def zfg (h : zH) (r : Nat) : Prop := h.1 (30 + 5 * r) 5 ≠ 0
def zfl (h : zH) : Nat → Nat
  | 0 => 0
  | n + 1 => zfl h n + (if h.1 (30 + 5 * n) 5 = 0 then 0 else 1)
theorem zfl_le {h : zH} : ∀ n, zfl h n ≤ n
  | 0 => Nat.le_refl _
  | n + 1 => by
    have := zfl_le (h := h) n
    unfold zfl
    split <;> omega
theorem zfl_lt {h : zH} {r : Nat} (e : h.1 (30 + 5 * r) 5 = 0) : ∀ n, r < n → zfl h n < n
  | 0, q => by omega
  | n + 1, q => by
    have c : zfl h (n + 1) = zfl h n + (if h.1 (30 + 5 * n) 5 = 0 then 0 else 1) := rfl
    by_cases w : n = r
    · subst w
      rw [c, if_pos e]
      have := zfl_le (h := h) n
      omega
    · have := zfl_lt e n (by omega)
      rw [c]
      split <;> omega
theorem zfl_up {h g : zH} {r : Nat} (e : h.1 (30 + 5 * r) 5 = 0) (e1 : g.1 (30 + 5 * r) 5 ≠ 0) (o : ∀ s, s ≠ r → g.1 (30 + 5 * s) 5 = h.1 (30 + 5 * s) 5) : ∀ n, zfl g n = zfl h n + (if r < n then 1 else 0)
  | 0 => rfl
  | n + 1 => by
    have c : zfl h (n + 1) = zfl h n + (if h.1 (30 + 5 * n) 5 = 0 then 0 else 1) := rfl
    have c' : zfl g (n + 1) = zfl g n + (if g.1 (30 + 5 * n) 5 = 0 then 0 else 1) := rfl
    rw [c, c', zfl_up e e1 o n]
    by_cases w : n = r
    · subst w
      rw [if_pos e, if_neg e1, if_neg (Nat.lt_irrefl _), if_pos (Nat.lt_succ_self _)]
    · rw [o n w]
      by_cases w2 : r < n
      · rw [if_pos w2, if_pos (show r < n + 1 by omega)]
        omega
      · rw [if_neg w2, if_neg (show ¬ r < n + 1 by omega)]
        omega
/-- the row of what is pending, over h -/
def zBrw (h g : zH) (P : Nat → Prop) (p : Nat) : Prop := zQ5 h g ∧ p ≤ 60 ∧ g.1 2 3 = nI p ∧ (∀ j, j < p → ∃ r, r < 60 ∧ g.2.2.2 5 j = some (30 + 5 * r) ∧ P r) ∧ (∀ r, r < 60 → zfg g r → P r ∧ ∃ j, j < p ∧ g.2.2.2 5 j = some (30 + 5 * r)) ∧ p = zfl g 60
def zGrw (g g' : zH) (p p' : Nat) : Prop := p ≤ p' ∧ (∀ r, r < 60 → zfg g r → zfg g' r) ∧ ∀ j, j < p → g'.2.2.2 5 j = g.2.2.2 5 j
theorem zGrw_refl {g : zH} {p : Nat} : zGrw g g p p := ⟨Nat.le_refl _, fun _ _ q => q, fun _ _ => rfl⟩
theorem zGrw_tr {g g1 g2 : zH} {p p1 p2 : Nat} (a : zGrw g g1 p p1) (b : zGrw g1 g2 p1 p2) : zGrw g g2 p p2 := ⟨Nat.le_trans a.1 b.1, fun r hr q => b.2.1 r hr (a.2.1 r hr q), fun j hj => (b.2.2 j (Nat.lt_of_lt_of_le hj a.1)).trans (a.2.2 j hj)⟩
section ZBF
variable {h : zH} {P : Nat → Prop} {b : Int32}
theorem zrchT_B {g : zH} {p r : Nat} (B : zBrw h g P p) (hr : r < 60) (hP : P r) : ∃ p', zBrw h (zrchT g (30 + 5 * r)) P p' ∧ zGrw g (zrchT g (30 + 5 * r)) p p' ∧ zfg (zrchT g (30 + 5 * r)) r := by
  obtain ⟨q5, p60, ep, dp, fp, el⟩ := B
  have hpc := zpc_of p60 ep
  by_cases e : g.1 (30 + 5 * r) 5 = 0
  · have lt : p < 60 := by rw [el]; exact zfl_lt e 60 hr
    have E : zrchT g (30 + 5 * r) = zrcA g p (30 + 5 * r) := by
      unfold zrchT
      rw [hpc, if_pos ⟨e, lt⟩]
    rw [E]
    have f5 : ∀ s, (zrcA g p (30 + 5 * r)).1 (30 + 5 * s) 5 = if s = r then 1 else g.1 (30 + 5 * s) 5 := fun s => by
      show (zupI (zupR (zupI g (30 + 5 * r) 5 (Int32.ofInt (Int.ofNat 1))) 5 p (some (30 + 5 * r))) 2 3 (nI (p + 1))).1 (30 + 5 * s) 5 = _
      rw [zupI_ne (fun q => by omega)]
      show (zupI g (30 + 5 * r) 5 (Int32.ofInt (Int.ofNat 1))).1 (30 + 5 * s) 5 = _
      by_cases w : s = r
      · subst w
        rw [zupI_at, if_pos rfl]
        rfl
      · rw [zupI_ne (fun q => w (by omega)), if_neg w]
    have l5 : ∀ j, (zrcA g p (30 + 5 * r)).2.2.2 5 j = if j = p then some (30 + 5 * r) else g.2.2.2 5 j := fun j => by
      show (zupR (zupI g (30 + 5 * r) 5 (Int32.ofInt (Int.ofNat 1))) 5 p (some (30 + 5 * r))).2.2.2 5 j = _
      by_cases w : j = p
      · subst w
        rw [zupR_at, if_pos rfl]
      · rw [zupR_ne (fun q => w q.2), if_neg w]
        rfl
    have fr : zfg (zrcA g p (30 + 5 * r)) r := by
      unfold zfg
      rw [f5, if_pos rfl]
      decide
    refine ⟨p + 1, ⟨zQ5_tr q5 ⟨rfl, rfl, fun c hc => funext fun j => zupR_ne (fun q => hc q.1), fun c s n5 n3 => ?_⟩, lt, zupI_at, fun j hj => ?_, fun s hs q => ?_, ?_⟩, ⟨Nat.le_succ p, fun s hs q => ?_, fun j hj => ?_⟩, fr⟩
    · show (zupI (zupR (zupI g (30 + 5 * r) 5 (Int32.ofInt (Int.ofNat 1))) 5 p (some (30 + 5 * r))) 2 3 (nI (p + 1))).1 c s = _
      rw [zupI_ne n3]
      exact zupI_ne (fun q => n5 ⟨q.1 ▸ ⟨r, hr, rfl⟩, q.2⟩)
    · rw [l5]
      by_cases w : j = p
      · rw [if_pos w]
        exact ⟨r, hr, rfl, hP⟩
      · rw [if_neg w]
        exact dp j (by omega)
    · by_cases w : s = r
      · subst w
        exact ⟨hP, p, Nat.lt_succ_self p, by rw [l5, if_pos rfl]⟩
      · unfold zfg at q
        rw [f5, if_neg w] at q
        obtain ⟨a, j, hj, e9⟩ := fp s hs q
        exact ⟨a, j, by omega, by rw [l5, if_neg (by omega)]; exact e9⟩
    · rw [zfl_up e fr (fun s hs => by rw [f5, if_neg hs]) 60, if_pos hr, ← el]
    · unfold zfg at q ⊢
      rw [f5]
      split
      · decide
      · exact q
    · rw [l5, if_neg (by omega)]
  · have E : zrchT g (30 + 5 * r) = g := by
      unfold zrchT
      rw [if_neg (fun q => e q.1)]
    rw [E]
    exact ⟨p, ⟨q5, p60, ep, dp, fp, el⟩, zGrw_refl, e⟩
theorem zrch_B {g : zH} {p k : Nat} (hw : zWk h) (B : zBrw h g P p) (hk : zS k = (0, 6, 6)) (hP : ∀ r, zed h b k r → P r) : ∃ p', zBrw h (zrch g k b) P p' ∧ zGrw g (zrch g k b) p p' ∧ ∀ r, zed h b k r → zfg (zrch g k b) r := by
  have q5 := B.1
  by_cases e : ∃ r, zed h b k r
  · obtain ⟨r, hr, e0, e1, e2⟩ := e
    have E : zrch g k b = zrchT g (30 + 5 * r) := by
      unfold zrch
      have a0 : g.1 k 0 = 116 := by rw [zQ5_v q5 hk]; exact e0
      have a1 : g.2.2.2 k 5 = some (30 + 5 * r) := by rw [zQ5_r q5 hk]; exact e1
      rw [if_pos (zgd_ref a0 a1), a1]
      show (if ¬ b = 0 ∨ ¬ g.1 (30 + 5 * r) 1 = 0 then zrchT g (30 + 5 * r) else g) = _
      rw [zQ5_th q5 (by decide), if_pos e2]
    rw [E]
    obtain ⟨p', x, y, z⟩ := zrchT_B B hr (hP r ⟨hr, e0, e1, e2⟩)
    refine ⟨p', x, y, fun s hs => ?_⟩
    have : s = r := by
      have w := hs.2.2.1
      rw [e1] at w
      injection w with w
      omega
    rw [this]
    exact z
  · have E : zrch g k b = g := by
      unfold zrch
      split
      · rename_i c
        cases hq : g.2.2.2 k 5 with
        | none => rfl
        | some t =>
          show (if ¬ b = 0 ∨ ¬ g.1 t 1 = 0 then zrchT g t else g) = g
          rw [zQ5_r q5 hk] at hq
          obtain ⟨r, hr, rfl⟩ := hw.1.2.1 k hk t hq
          rw [if_neg]
          intro c2
          refine e ⟨r, hr, ?_, hq, ?_⟩
          · unfold zisRef at c
            rw [Bool.and_eq_true, decide_eq_true_iff, zQ5_v q5 hk] at c
            exact c.1
          · rw [zQ5_th q5 (by decide)] at c2
            exact c2
      · rfl
    rw [E]
    exact ⟨p, B, zGrw_refl, fun r q => absurd ⟨r, q⟩ e⟩
theorem zrG_B (hw : zWk h) (hP : ∀ x, x < 24 → ∀ r, zed h b (6 + x) r → P r) : ∀ (m i : Nat) (g : zH) (p : Nat), i + m = 24 → zBrw h g P p → ∃ p', zBrw h (zrG b m i g) P p' ∧ zGrw g (zrG b m i g) p p' ∧ ∀ x, i ≤ x → x < 24 → ∀ r, zed h b (6 + x) r → zfg (zrG b m i g) r
  | 0, i, g, p, e, B => ⟨p, B, zGrw_refl, fun x h1 h2 => by omega⟩
  | m + 1, i, g, p, e, B => by
    obtain ⟨p1, B1, G1, F1⟩ := zrch_B hw B (zS_val24 i (by omega)) (hP i (by omega))
    obtain ⟨p2, B2, G2, F2⟩ := zrG_B hw hP m (i + 1) (zrch g (6 + i) b) p1 (by omega) B1
    refine ⟨p2, B2, zGrw_tr G1 G2, fun x h1 h2 r q => ?_⟩
    by_cases w : x = i
    · subst w
      exact G2.2.1 r q.1 (F1 r q)
    · exact F2 x (by omega) h2 r q
theorem zfR_B (hw : zWk h) {t : Nat} (ht : t < 60) (hP : ∀ f, f < 3 → ∀ r, zed h b (32 + 5 * t + f) r → P r) : ∀ (m i : Nat) (g : zH) (p : Nat), i + m = 3 → zBrw h g P p → ∃ p', zBrw h (zfR t b m i g) P p' ∧ zGrw g (zfR t b m i g) p p' ∧ ∀ f, i ≤ f → f < 3 → ∀ r, zed h b (32 + 5 * t + f) r → zfg (zfR t b m i g) r
  | 0, i, g, p, e, B => ⟨p, B, zGrw_refl, fun x h1 h2 => by omega⟩
  | m + 1, i, g, p, e, B => by
    obtain ⟨p1, B1, G1, F1⟩ := zrch_B hw B (zS_tval t ht i (by omega)) (hP i (by omega))
    obtain ⟨p2, B2, G2, F2⟩ := zfR_B hw ht hP m (i + 1) (zrch g (32 + 5 * t + i) b) p1 (by omega) B1
    refine ⟨p2, B2, zGrw_tr G1 G2, fun x h1 h2 r q => ?_⟩
    by_cases w : x = i
    · subst w
      exact G2.2.1 r q.1 (F1 r q)
    · exact F2 x (by omega) h2 r q
/-- a root without a value: a thing with a handle -/
def zrt (h : zH) (b : Int32) (r : Nat) : Prop := b = 0 ∧ 0 ≤ h.1 (30 + 5 * r) 0 ∧ ¬ h.1 (30 + 5 * r) 1 = 0 ∧ 0 < h.1 (30 + 5 * r) 4
theorem zrM_B (hP : ∀ r, r < 60 → zrt h b r → P r) : ∀ (m i : Nat) (g : zH) (p : Nat), i + m = 60 → zBrw h g P p → ∃ p', zBrw h (zrM b m i g) P p' ∧ zGrw g (zrM b m i g) p p' ∧ ∀ r, i ≤ r → r < 60 → zrt h b r → zfg (zrM b m i g) r
  | 0, i, g, p, e, B => ⟨p, B, zGrw_refl, fun x h1 h2 => by omega⟩
  | m + 1, i, g, p, e, B => by
    have q5 := B.1
    have cnd : (b = 0 ∧ 0 ≤ g.1 (30 + 5 * i) 0 ∧ ¬ g.1 (30 + 5 * i) 1 = 0 ∧ 0 < g.1 (30 + 5 * i) 4) ↔ zrt h b i := by
      unfold zrt
      rw [zQ5_th q5 (by decide), zQ5_th q5 (by decide), zQ5_th q5 (by decide)]
    have one : ∃ p', zBrw h (zrM1 g b i) P p' ∧ zGrw g (zrM1 g b i) p p' ∧ (zrt h b i → zfg (zrM1 g b i) i) := by
      unfold zrM1
      split
      · rename_i c
        obtain ⟨p1, x, y, z⟩ := zrchT_B B (r := i) (by omega) (hP i (by omega) (cnd.mp c))
        exact ⟨p1, x, y, fun _ => z⟩
      · rename_i c
        exact ⟨p, B, zGrw_refl, fun q => absurd (cnd.mpr q) c⟩
    obtain ⟨p1, B1, G1, F1⟩ := one
    obtain ⟨p2, B2, G2, F2⟩ := zrM_B hP m (i + 1) (zrM1 g b i) p1 (by omega) B1
    refine ⟨p2, B2, zGrw_tr G1 G2, fun r h1 h2 q => ?_⟩
    by_cases w : r = i
    · subst w
      exact G2.2.1 r h2 (F1 q)
    · exact F2 r (by omega) h2 q
/-- the row worked through -/
theorem zfu_B (hw : zWk h) (hP : ∀ t, t < 60 → P t → ∀ f, f < 3 → ∀ r, zed h b (32 + 5 * t + f) r → P r) : ∀ (m j : Nat) (g : zH) (p : Nat), j + m = 60 → zBrw h g P p → (∀ i, i < j → i < p → ∀ t, t < 60 → g.2.2.2 5 i = some (30 + 5 * t) → ∀ f, f < 3 → ∀ r, zed h b (32 + 5 * t + f) r → zfg g r) →
    ∃ p', zBrw h (zfu b m j g) P p' ∧ zGrw g (zfu b m j g) p p' ∧ ∀ t, t < 60 → zfg (zfu b m j g) t → ∀ f, f < 3 → ∀ r, zed h b (32 + 5 * t + f) r → zfg (zfu b m j g) r
  | 0, j, g, p, e, B, D => ⟨p, B, zGrw_refl, fun t ht q f hf r q2 => by
    obtain ⟨-, i, hi, e9⟩ := B.2.2.2.2.1 t ht q
    have := B.2.1
    exact D i (by omega) hi t ht e9 f hf r q2⟩
  | m + 1, j, g, p, e, B, D => by
    have hpc := zpc_of B.2.1 B.2.2.1
    unfold zfu
    rw [hpc]
    split
    · rename_i c
      exact ⟨p, B, zGrw_refl, fun t ht q f hf r q2 => by
        obtain ⟨-, i, hi, e9⟩ := B.2.2.2.2.1 t ht q
        exact D i (by omega) hi t ht e9 f hf r q2⟩
    · rename_i c
      obtain ⟨t, ht, e9, Pt⟩ := B.2.2.2.1 j (by omega)
      rw [e9]
      show ∃ p', zBrw h (zfu b m (j + 1) (zfR ((30 + 5 * t - 30) / 5) b 3 0 g)) P p' ∧ zGrw g (zfu b m (j + 1) (zfR ((30 + 5 * t - 30) / 5) b 3 0 g)) p p' ∧ ∀ t', t' < 60 → zfg (zfu b m (j + 1) (zfR ((30 + 5 * t - 30) / 5) b 3 0 g)) t' → ∀ f, f < 3 → ∀ r, zed h b (32 + 5 * t' + f) r → zfg (zfu b m (j + 1) (zfR ((30 + 5 * t - 30) / 5) b 3 0 g)) r
      rw [show (30 + 5 * t - 30) / 5 = t by omega]
      obtain ⟨p1, B1, G1, F1⟩ := zfR_B hw ht (hP t ht Pt) 3 0 g p rfl B
      obtain ⟨p2, B2, G2, F2⟩ := zfu_B hw hP m (j + 1) (zfR t b 3 0 g) p1 (by omega) B1 (fun i h1 h2 t' ht' e8 f hf r q => by
        rw [G1.2.2 i (by omega)] at e8
        by_cases w : i = j
        · subst w
          rw [e9] at e8
          injection e8 with e8
          have : t' = t := by omega
          subst this
          exact F1 f (Nat.zero_le _) hf r q
        · exact G1.2.1 r q.1 (D i (by omega) (by omega) t' ht' e8 f hf r q))
      exact ⟨p2, B2, zGrw_tr G1 G2, F2⟩
end ZBF
