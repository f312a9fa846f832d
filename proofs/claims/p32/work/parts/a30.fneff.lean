/-! functions, codes, guards: what they leave -/
section ZHQ2
variable {h h' : zH} {M : Nat}
theorem zHq_n1 (o : zHq h h') {k t : Nat} (h6 : 6 ≤ k) (hk : k < 330) : zn1 h' k t = zn1 h k t := by
  unfold zn1 zisRef
  rw [(o k (Or.inr ⟨h6, hk⟩)).1, (o k (Or.inr ⟨h6, hk⟩)).2.2]
theorem zHq_kG (o : zHq h h') {t : Nat} : ∀ m i, i + m ≤ 8 → zkG h' t m i = zkG h t m i
  | 0, _, _ => rfl
  | m + 1, i, e => by unfold zkG; rw [zHq_n1 o (by omega) (by omega), zHq_kG o m (i + 1) (by omega)]
theorem zHq_kF (o : zHq h h') {r t : Nat} (hr : r < 60) : ∀ m i, i + m ≤ 3 → zkF h' r t m i = zkF h r t m i
  | 0, _, _ => rfl
  | m + 1, i, e => by unfold zkF; rw [zHq_n1 o (by omega) (by omega), zHq_kF o hr m (i + 1) (by omega)]
theorem zHq_of (o : zHq h h') {r : Nat} {w : Int32} (hr : r < 60) : zisOf h' (30 + 5 * r) w = zisOf h (30 + 5 * r) w := by
  unfold zisOf
  rw [(o _ (Or.inr ⟨by omega, by omega⟩)).1]
theorem zHq_kT (o : zHq h h') {t : Nat} : ∀ m i, i + m ≤ 60 → zkT h' t m i = zkT h t m i
  | 0, _, _ => rfl
  | m + 1, i, e => by
    have a : zkT1 h' t i = zkT1 h t i := by
      unfold zkT1
      rw [zHq_of o (by omega), zHq_kF o (by omega) 3 0 (by omega)]
    unfold zkT
    rw [a, zHq_kT o m (i + 1) (by omega)]
theorem zHq_ow (o : zHq h h') {r : Nat} (hr : r < 60) : zow h' (30 + 5 * r) = zow h (30 + 5 * r) := by
  unfold zow zkN
  rw [zHq_kG o 8 0 (by omega), zHq_kT o 60 0 (by omega), (o _ (Or.inr ⟨by omega, by omega⟩)).1]
theorem zHq_Ev (o : zHq h h') (E : zEv h M) (hw : zWk h') (hn : zNn h') (hf : zFn h') : zEv h' M := by
  refine ⟨⟨hw, hn, hf, zHI_q E.1.1 o E.1.2.2.2⟩, fun r hr q => ?_, ?_⟩
  · rw [zHq_ow o hr]
    rw [zHq_of o hr] at q
    exact E.2.1 r hr q
  · rw [(o 2 (Or.inl rfl)).1]
    exact E.2.2
theorem zHq_I {h : zH} {k j : Nat} {x : Int32} (h2 : k ≠ 2) (h3 : k < 6 ∨ 330 ≤ k) : zHq h (zupI h k j x) := zHq_off zoffI h2 h3
theorem zHq_tr {h1 : zH} (a : zHq h h1) (b : zHq h1 h') : zHq h h' := fun c hc => ⟨(b c hc).1.trans (a c hc).1, (b c hc).2.1.trans (a c hc).2.1, (b c hc).2.2.trans (a c hc).2.2⟩
/-- the law's row of sizes -/
def zCd (h : zH) : Prop := ∀ f, f < 9 → h.1 854 f = h.1 (751 + 3 * f) 4
theorem e_addF {n l p : Nat} (E : zEv h M) (h9 : n < 9) (hl : l < 3) (hp : p ≤ 2) : zEv (znfn h n (nI l) (nI p)) M ∧ (znfn h n (nI l) (nI p)).1 1 2 = nI (n + 1) ∧ (zCd h → zCd (znfn h n (nI l) (nI p))) ∧ (znfn h n (nI l) (nI p)).2 = h.2 := by
  have e : znfn h n (nI l) (nI p) = zupI (zupI (zupI h (751 + 3 * n) 0 (nI l)) (751 + 3 * n) 1 (nI p)) 1 2 (nI (n + 1)) := by
    unfold znfn
    rw [if_pos h9]
  have hK : zWk (znfn h n (nI l) (nI p)) := zK_nfn E.1.1
  rw [e] at hK ⊢
  have I : ∀ c s, c ≠ 1 → (zupI (zupI (zupI h (751 + 3 * n) 0 (nI l)) (751 + 3 * n) 1 (nI p)) 1 2 (nI (n + 1))).1 c s = if c = 751 + 3 * n ∧ s = 1 then nI p else if c = 751 + 3 * n ∧ s = 0 then nI l else h.1 c s := fun c s h1 => by
    rw [zupI_ne (fun q => h1 q.1)]
    rfl
  refine ⟨zHq_Ev (zHq_tr (zHq_tr (zHq_I (by omega) (by omega)) (zHq_I (by omega) (by omega))) (zHq_I (by decide) (by decide))) E hK E.1.2.1 ⟨fun f hf => ?_, ⟨n + 1, by omega, zupI_at⟩, by rw [zupI_ne (fun q => by cases q.2), zupI_ne (fun q => by omega), zupI_ne (fun q => by omega)]; exact E.1.2.2.1.2.2⟩, zupI_at, fun C f hf => ?_, rfl⟩
  · rw [I _ _ (by omega), I _ _ (by omega), I _ _ (by omega)]
    obtain ⟨a, b, c⟩ := E.1.2.2.1.1 f hf
    by_cases w : f = n
    · subst w
      rw [if_neg (by omega), if_pos ⟨rfl, rfl⟩, if_pos ⟨rfl, rfl⟩, if_neg (by omega), if_neg (by omega)]
      exact ⟨⟨l, hl, rfl⟩, ⟨p, hp, rfl⟩, c⟩
    · rw [if_neg (by omega), if_neg (by omega), if_neg (by omega), if_neg (by omega), if_neg (by omega), if_neg (by omega)]
      exact ⟨a, b, c⟩
  · rw [I _ _ (by omega), I _ _ (by omega), if_neg (by omega), if_neg (by omega), if_neg (by omega), if_neg (by omega)]
    exact C f hf
theorem e_code {f k : Nat} {c x : Int32} (E : zEv h M) (hf : f < 9) (h20 : k < 20) (hk : h.1 (751 + 3 * f) 4 = nI k) : zEv (zapp h f k c x) M ∧ (zapp h f k c x).1 1 = h.1 1 ∧ (zCd h → (zapp h f k c x).1 854 f = nI k ∧ zEv (zupI (zapp h f k c x) 854 f (nI (k + 1))) M ∧ zCd (zupI (zapp h f k c x) 854 f (nI (k + 1)))) ∧ (zapp h f k c x).2 = h.2 := by
  have e : zapp h f k c x = zupI (zupI (zupI h (752 + 3 * f) k c) (753 + 3 * f) k x) (751 + 3 * f) 4 (nI (k + 1)) := by
    unfold zapp
    rw [if_pos h20]
  have hK : zWk (zapp h f k c x) := zK_app E.1.1 (by omega)
  rw [e] at hK ⊢
  have I : ∀ g, g < 10 → ∀ s, (zupI (zupI (zupI h (752 + 3 * f) k c) (753 + 3 * f) k x) (751 + 3 * f) 4 (nI (k + 1))).1 (751 + 3 * g) s = if g = f ∧ s = 4 then nI (k + 1) else h.1 (751 + 3 * g) s := fun g hg s => by
    by_cases w : g = f ∧ s = 4
    · obtain ⟨rfl, rfl⟩ := w
      rw [zupI_at, if_pos ⟨rfl, rfl⟩]
    · rw [zupI_ne (fun q => w ⟨by omega, q.2⟩), zupI_ne (fun q => by omega), zupI_ne (fun q => by omega), if_neg w]
  have o : zHq h (zupI (zupI (zupI h (752 + 3 * f) k c) (753 + 3 * f) k x) (751 + 3 * f) 4 (nI (k + 1))) := zHq_tr (zHq_tr (zHq_I (by omega) (by omega)) (zHq_I (by omega) (by omega))) (zHq_I (by omega) (by omega))
  have one : (zupI (zupI (zupI h (752 + 3 * f) k c) (753 + 3 * f) k x) (751 + 3 * f) 4 (nI (k + 1))).1 1 = h.1 1 := funext fun s => by
    rw [zupI_ne (fun q => by omega), zupI_ne (fun q => by omega), zupI_ne (fun q => by omega)]
  have r854 : ∀ s, (zupI (zupI (zupI h (752 + 3 * f) k c) (753 + 3 * f) k x) (751 + 3 * f) 4 (nI (k + 1))).1 854 s = h.1 854 s := fun s => by
    rw [zupI_ne (fun q => by omega), zupI_ne (fun q => by omega), zupI_ne (fun q => by omega)]
  have F : zFn (zupI (zupI (zupI h (752 + 3 * f) k c) (753 + 3 * f) k x) (751 + 3 * f) 4 (nI (k + 1))) := by
    refine ⟨fun g hg => ?_, by rw [one]; exact E.1.2.2.1.2⟩
    obtain ⟨a, b, d⟩ := E.1.2.2.1.1 g hg
    rw [I g hg, I g hg, I g hg, if_neg (by omega), if_neg (by omega)]
    refine ⟨a, b, ?_⟩
    split
    · exact ⟨k + 1, by omega, rfl⟩
    · exact d
  have E1 := zHq_Ev o E hK E.1.2.1 F
  have N : ∀ c' s, c' ≠ 854 → (zupI (zupI (zupI (zupI h (752 + 3 * f) k c) (753 + 3 * f) k x) (751 + 3 * f) 4 (nI (k + 1))) 854 f (nI (k + 1))).1 c' s = (zupI (zupI (zupI h (752 + 3 * f) k c) (753 + 3 * f) k x) (751 + 3 * f) 4 (nI (k + 1))).1 c' s := fun c' s hc => zupI_ne (fun q => hc q.1)
  have N8 : ∀ s, s ≠ f → (zupI (zupI (zupI (zupI h (752 + 3 * f) k c) (753 + 3 * f) k x) (751 + 3 * f) 4 (nI (k + 1))) 854 f (nI (k + 1))).1 854 s = (zupI (zupI (zupI h (752 + 3 * f) k c) (753 + 3 * f) k x) (751 + 3 * f) 4 (nI (k + 1))).1 854 s := fun s hs => zupI_ne (fun q => hs q.2)
  refine ⟨E1, one, fun C => ⟨?_, ?_, fun g hg => ?_⟩, rfl⟩
  · rw [r854, C f hf]
    exact hk
  · refine zHq_Ev (zHq_I (by decide) (Or.inr (by decide))) E1 (zK_I hK (zTok_o zS_854 (by decide) (by decide) (by decide) (by decide))) E.1.2.1 ⟨fun g hg => ?_, ?_⟩
    · rw [N _ _ (by omega), N _ _ (by omega), N _ _ (by omega)]
      exact F.1 g hg
    · rw [N 1 2 (by omega), N 1 13 (by omega)]
      exact F.2
  · by_cases w : g = f
    · subst w
      rw [zupI_at, N _ _ (by omega), I g (by omega), if_pos ⟨rfl, rfl⟩]
    · rw [N8 g w, N _ _ (by omega), r854, I g (by omega), if_neg (fun q => w q.1)]
      exact C g hg
theorem e_guard {f : Nat} {x y z b : Int32} (E : zEv h M) (hf : f < 9) (hb : zBo b) : zEv (zgrd h f x y z b) M ∧ (zgrd h f x y z b).1 1 = h.1 1 ∧ (zCd h → zCd (zgrd h f x y z b)) ∧ (zgrd h f x y z b).2 = h.2 := by
  have hK : zWk (zgrd h f x y z b) := zK_grd E.1.1 (by omega) hb
  have I : ∀ c s, s < 5 → (zgrd h f x y z b).1 c s = h.1 c s := fun c s hs => by
    unfold zgrd
    rw [zupI_ne (fun q => by omega), zupI_ne (fun q => by omega), zupI_ne (fun q => by omega), zupI_ne (fun q => by omega)]
  have J : ∀ c, c ≠ 751 + 3 * f → (zgrd h f x y z b).1 c = h.1 c := fun c hc => funext fun s => by
    unfold zgrd
    rw [zupI_ne (fun q => hc q.1), zupI_ne (fun q => hc q.1), zupI_ne (fun q => hc q.1), zupI_ne (fun q => hc q.1)]
  have o : zHq h (zgrd h f x y z b) := by
    unfold zgrd
    exact zHq_tr (zHq_tr (zHq_tr (zHq_I (by omega) (by omega)) (zHq_I (by omega) (by omega))) (zHq_I (by omega) (by omega))) (zHq_I (by omega) (by omega))
  refine ⟨zHq_Ev o E hK E.1.2.1 ⟨fun g hg => ?_, ?_⟩, J 1 (by omega), fun C g hg => ?_, rfl⟩
  · rw [I _ 0 (by decide), I _ 1 (by decide), I _ 4 (by decide)]
    exact E.1.2.2.1.1 g hg
  · rw [J 1 (by omega)]
    exact E.1.2.2.1.2
  · rw [J 854 (by omega), I _ 4 (by decide)]
    exact C g hg
end ZHQ2
