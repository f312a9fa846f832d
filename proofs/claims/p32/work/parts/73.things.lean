/-! things: begun, stored in, noted -/
def zbegF (r : Nat) (l : Int32) : Nat → Nat → zH → zH
  | 0, _, h => h
  | m + 1, i, h => zbegF r l m (i + 1) (zbNothing h (32 + 5 * r + i) (znoOf l))
def zbg0 (h : zH) (t : Nat) (n l : Int32) : zH := zupI (zupI (zupI (zupI h t 0 n) t 1 l) t 3 (Int32.ofInt (Int.ofNat 0))) t 4 (Int32.ofInt (Int.ofNat 0))
def zbegT (h : zH) (r : Nat) (n l : Int32) : zH := zbegF r l 3 0 (zbg0 h (30 + 5 * r) n l)
theorem zK_bg0 {h : zH} (hw : zWk h) {t : Nat} {n l : Int32} (ht : zS t = (0, 5, 6)) : zWk (zbg0 h t n l) :=
  zK_I (zK_I (zK_I (zK_I hw (zTok_t ht (fun e => by cases e) (fun e => by cases e))) (zTok_t ht (fun e => by cases e) (fun e => by cases e))) (zTok_t ht (fun _ => zBo0) (fun e => by cases e))) (zTok_t ht (fun e => by cases e) (fun e => by cases e))
theorem zK_begF {r : Nat} (hr : r < 60) {l : Int32} : ∀ (m i : Nat) (h : zH), i + m = 3 → zWk h → zWk (zbegF r l m i h)
  | 0, _, _, _, hw => hw
  | m + 1, i, _, e, hw => zK_begF hr m (i + 1) _ (by omega) (zK_bNothing hw (zS_tval r hr i (by omega)) zCh_no)
theorem zK_begT {h : zH} (hw : zWk h) {r : Nat} (hr : r < 60) {n l : Int32} : zWk (zbegT h r n l) := zK_begF hr 3 0 _ rfl (zK_bg0 hw (zS_thing r hr))
def znoteP (h : zH) (l : Int32) (k : Nat) : zH := if ¬ l = 0 ∧ zisRef h k = true then (match h.2.2.2 k 5 with | none => h | some t => if h.1 t 1 = 0 then zupI h t 3 (Int32.ofInt (Int.ofNat 1)) else h) else h
theorem zK_noteP {h : zH} (hw : zWk h) {l : Int32} {k : Nat} (hk : zS k = (0, 6, 6)) : zWk (znoteP h l k) := by
  unfold znoteP
  split
  · cases hq : h.2.2.2 k 5 with
    | none => exact hw
    | some t =>
      show zWk (if h.1 t 1 = 0 then zupI h t 3 (Int32.ofInt (Int.ofNat 1)) else h)
      split
      · exact zK_I hw (zTok_t (zTh_S (hw.1.2.1 k hk t hq)) (fun _ => zBo1) (fun e => by cases e))
      · exact hw
  · exact hw
def zstF (h : zH) (r f k : Nat) : zH := znoteP (zcp h (32 + 5 * r + f) k) ((zcp h (32 + 5 * r + f) k).1 (30 + 5 * r) 1) k
def zstG (h : zH) (l g k : Nat) : zH := znoteP (zcp h (6 + (8 * l + g)) k) (nI l) k
theorem zK_stF {h : zH} (hw : zWk h) {r f k : Nat} (hr : r < 60) (hf : f < 3) (hk : zS k = (0, 6, 6)) : zWk (zstF h r f k) := zK_noteP (zK_cp hw (zS_tval r hr f hf) hk) hk
theorem zK_stG {h : zH} (hw : zWk h) {l g k : Nat} (hl : l < 3) (hg : g < 8) (hk : zS k = (0, 6, 6)) : zWk (zstG h l g k) := zK_noteP (zK_cp hw (zS_val24 (8 * l + g) (by omega)) hk) hk
def zcnt (h : zH) (w : Int32) : Nat → Nat → Int32 → Int32
  | 0, _, c => c
  | m + 1, i, c => zcnt h w m (i + 1) (c + zB (zisOf h (30 + 5 * i) w))
def znewH (h : zH) (r : Nat) (l : Int32) : zH := zupI (zbegT h r (h.1 2 4) l) 2 4 ((zbegT h r (h.1 2 4) l).1 2 4 + Int32.ofInt (Int.ofNat 1))
def znw (h : zH) (l : Int32) : Nat → Nat → Option Nat × zH
  | 0, _ => (none, h)
  | m + 1, i => if h.1 (30 + 5 * i) 0 < 0 then (some (30 + 5 * i), znewH h i l) else znw h l m (i + 1)
theorem zK_nw {h : zH} (hw : zWk h) {l : Int32} : ∀ (m i : Nat), i + m = 60 → zWk (znw h l m i).2
  | 0, _, _ => hw
  | m + 1, i, e => by
    unfold znw
    split
    · exact zK_I (zK_begT hw (by omega)) (zTok_o zS_2 (by decide) (by decide) (by decide) (by decide))
    · exact zK_nw hw m (i + 1) (by omega)

set_option maxHeartbeats 4000000 in
set_option maxRecDepth 20000 in
theorem l_begF {ω : zO} (C : zX ω 66) {r : Nat} (hr : r < 60) {l : Int32} : ∀ (m i : Nat) (h : zH), i + m = 3 → zWk h → ZG ω 66 46 [] [] (zbegF r l m i h) 0 0 → ZG ω 66 22 [(3, zi (nI i)), (2, zi l), (0, zr (some (30 + 5 * r)))] [] h 0 0 := by
  intro m
  induction m with
  | zero =>
    intro i h hi hI kk
    obtain rfl : i = 3 := by omega
    refine z_iloadn C rfl rfl ?_
    refine z_iconst C rfl ?_
    refine z_icmp C rfl (fun hc => ?_) (fun hc => absurd (Int32.le_refl _) hc)
    exact z_ll [] trivial kk
  | succ m ih =>
    intro i h hi hI kk
    have hiN : i < 3 := by omega
    refine z_iloadn C rfl rfl ?_
    refine z_iconst C rfl ?_
    refine z_icmp C rfl (fun hc => absurd hc (nI_ge hiN (by decide))) (fun hc => ?_)
    refine z_aloadn C rfl rfl ?_
    refine z_gets C rfl (zS_thing r hr) rfl (hI.1.1.2.2.2.2.2.1 r hr).2.1 ?_
    refine z_iloadn C rfl rfl ?_
    refine z_aalds C rfl (zS_tarr r hr) (by decide) (by decide) (zin hiN (by decide)) (by rw [zclamp hiN (by decide)]; exact (hI.1.1.2.2.2.2.2.1 r hr).2.2 i hiN) ?_
    refine z_iloadn C rfl rfl ?_
    refine z_calls C rfl ⟨by decide, by decide, by decide⟩ (c_nothingOf (zKg_of C) _) rfl rfl (Nat.le_of_ble_eq_true rfl) ⟨Nat.le_of_ble_eq_true rfl, Nat.le_of_ble_eq_true rfl⟩ ?_
    refine z_callv C rfl ⟨by decide, by decide⟩ (zS_tval r hr i hiN) (c_becomeNothing (zKg_of C) (zS_tval r hr i hiN) ⟨_, rfl, zCh_no.1, zCh_no.2⟩ _) rfl rfl (Nat.le_of_ble_eq_true rfl) ⟨Nat.le_of_ble_eq_true rfl, Nat.le_of_ble_eq_true rfl⟩ ?_
    refine z_iinc C rfl rfl ?_
    refine z_goto C rfl ?_
    exact z_ll [(3, zi (nI (i + 1))), (2, zi l), (0, zr (some (30 + 5 * r)))] ⟨znx i, rfl, rfl, trivial⟩ (ih (i + 1) _ (by omega) (zK_bNothing hI (zS_tval r hr i hiN) zCh_no) kk)
set_option maxHeartbeats 4000000 in
set_option maxRecDepth 20000 in
theorem c_beginT {κ : zK} (hκ : zKg κ) {r : Nat} (hr : r < 60) {n l : Int32} (h : zH) (hw : zWk h) : zRet κ 66 [zr (some (30 + 5 * r)), zi n, zi l] h none (zbegT h r n l) 0 0 := by
  refine zRet_of hκ (by decide) (by decide +kernel) (Nat.le_of_ble_eq_true rfl) fun ω C hK he => ?_
  refine z_aloadn C rfl rfl ?_
  refine z_iloadn C rfl rfl ?_
  refine z_puti C rfl (zS_thing r hr) rfl ⟨_, rfl⟩ ?_
  refine z_aloadn C rfl rfl ?_
  refine z_iloadn C rfl rfl ?_
  refine z_puti C rfl (zS_thing r hr) rfl ⟨_, rfl⟩ ?_
  refine z_aloadn C rfl rfl ?_
  refine z_iconst C rfl ?_
  refine z_puti C rfl (zS_thing r hr) rfl (by first | exact ⟨_, rfl, by decide, by decide⟩ | exact ⟨_, rfl, Or.inl rfl⟩ | exact ⟨_, rfl, Or.inr rfl⟩ | assumption) ?_
  refine z_aloadn C rfl rfl ?_
  refine z_iconst C rfl ?_
  refine z_puti C rfl (zS_thing r hr) rfl ⟨_, rfl⟩ ?_
  refine z_iconst C rfl ?_
  refine z_istoren C rfl ?_
  exact z_ll [(3, zi (nI 0)), (2, zi l), (0, zr (some (30 + 5 * r)))] ⟨rfl, rfl, rfl, trivial⟩ (l_begF C hr 3 0 _ rfl (zK_bg0 hw (zS_thing r hr)) (z_return C rfl he ⟨Nat.le_refl _, Nat.le_refl _⟩ rfl))

set_option maxHeartbeats 4000000 in
set_option maxRecDepth 20000 in
theorem c_noteP {κ : zK} (hκ : zKg κ) {l : Int32} {k : Nat} (hS : zS k = (0, 6, 6)) (h : zH) (hw : zWk h) : zRet κ 16 [zi l, zr (some k)] h none (znoteP h l k) 0 0 := by
  refine zRet_of hκ (by decide) (by decide +kernel) (Nat.le_of_ble_eq_true rfl) fun ω C hK he => ?_
  refine z_iloadn C rfl rfl ?_
  refine z_if C rfl (fun hc1 => ?_) (fun hc1 => ?_)
  · skip
    skip
    exact z_return C rfl (zER_eq he rfl (by first | (have q1 : l = 0 := hc1; unfold znoteP; rw [if_neg (fun q => q.1 q1)]) | (have q1 : zisRef h k = false := Eq.mp zB0 hc2; have q2 : ¬ (¬ l = 0 ∧ zisRef h k = true) := (fun q => by rw [q1] at q; cases q.2); unfold znoteP; rw [if_neg q2]) | (have q3 : ¬ h.1 t 1 = 0 := hc3; have e : znoteP h l k = h := (by unfold znoteP; rw [if_pos ⟨hc1, zbt hc2⟩, ht]; exact if_neg q3); exact e) | (have q3 : h.1 t 1 = 0 := Decidable.of_not_not hc3; have e : znoteP h l k = zupI h t 3 (Int32.ofInt (Int.ofNat 1)) := (by unfold znoteP; rw [if_pos ⟨hc1, zbt hc2⟩, ht]; exact if_pos q3); exact e))) ⟨Nat.le_refl _, Nat.le_refl _⟩ rfl
  · skip
    skip
    refine z_aloadn C rfl rfl ?_
    refine z_callv C rfl ⟨by decide, by decide⟩ hS (c_isReference (zKg_of C) hS _) rfl rfl (Nat.le_of_ble_eq_true rfl) ⟨Nat.le_of_ble_eq_true rfl, Nat.le_of_ble_eq_true rfl⟩ ?_
    refine z_if C rfl (fun hc2 => ?_) (fun hc2 => ?_)
    · skip
      skip
      exact z_return C rfl (zER_eq he rfl (by first | (have q1 : l = 0 := hc1; unfold znoteP; rw [if_neg (fun q => q.1 q1)]) | (have q1 : zisRef h k = false := Eq.mp zB0 hc2; have q2 : ¬ (¬ l = 0 ∧ zisRef h k = true) := (fun q => by rw [q1] at q; cases q.2); unfold znoteP; rw [if_neg q2]) | (have q3 : ¬ h.1 t 1 = 0 := hc3; have e : znoteP h l k = h := (by unfold znoteP; rw [if_pos ⟨hc1, zbt hc2⟩, ht]; exact if_neg q3); exact e) | (have q3 : h.1 t 1 = 0 := Decidable.of_not_not hc3; have e : znoteP h l k = zupI h t 3 (Int32.ofInt (Int.ofNat 1)) := (by unfold znoteP; rw [if_pos ⟨hc1, zbt hc2⟩, ht]; exact if_pos q3); exact e))) ⟨Nat.le_refl _, Nat.le_refl _⟩ rfl
    · skip
      skip
      refine z_aloadn C rfl rfl ?_
      obtain ⟨t, ht, hth⟩ := zref_t hw.1 hS (zbt hc2)
      refine z_gets C rfl hS rfl ht ?_
      refine z_geti C rfl (zTh_S hth) rfl ?_
      refine z_if C rfl (fun hc3 => ?_) (fun hc3 => ?_)
      · skip
        skip
        exact z_return C rfl (zER_eq he rfl (by first | (have q1 : l = 0 := hc1; unfold znoteP; rw [if_neg (fun q => q.1 q1)]) | (have q1 : zisRef h k = false := Eq.mp zB0 hc2; have q2 : ¬ (¬ l = 0 ∧ zisRef h k = true) := (fun q => by rw [q1] at q; cases q.2); unfold znoteP; rw [if_neg q2]) | (have q3 : ¬ h.1 t 1 = 0 := hc3; have e : znoteP h l k = h := (by unfold znoteP; rw [if_pos ⟨hc1, zbt hc2⟩, ht]; exact if_neg q3); exact e) | (have q3 : h.1 t 1 = 0 := Decidable.of_not_not hc3; have e : znoteP h l k = zupI h t 3 (Int32.ofInt (Int.ofNat 1)) := (by unfold znoteP; rw [if_pos ⟨hc1, zbt hc2⟩, ht]; exact if_pos q3); exact e))) ⟨Nat.le_refl _, Nat.le_refl _⟩ rfl
      · skip
        skip
        refine z_aloadn C rfl rfl ?_
        refine z_gets C rfl hS rfl ht ?_
        refine z_iconst C rfl ?_
        refine z_puti C rfl (zTh_S hth) rfl ⟨_, rfl, Or.inr rfl⟩ ?_
        exact z_return C rfl (zER_eq he rfl (by first | (have q1 : l = 0 := hc1; unfold znoteP; rw [if_neg (fun q => q.1 q1)]) | (have q1 : zisRef h k = false := Eq.mp zB0 hc2; have q2 : ¬ (¬ l = 0 ∧ zisRef h k = true) := (fun q => by rw [q1] at q; cases q.2); unfold znoteP; rw [if_neg q2]) | (have q3 : ¬ h.1 t 1 = 0 := hc3; have e : znoteP h l k = h := (by unfold znoteP; rw [if_pos ⟨hc1, zbt hc2⟩, ht]; exact if_neg q3); exact e) | (have q3 : h.1 t 1 = 0 := Decidable.of_not_not hc3; have e : znoteP h l k = zupI h t 3 (Int32.ofInt (Int.ofNat 1)) := (by unfold znoteP; rw [if_pos ⟨hc1, zbt hc2⟩, ht]; exact if_pos q3); exact e))) ⟨Nat.le_refl _, Nat.le_refl _⟩ rfl

set_option maxHeartbeats 4000000 in
set_option maxRecDepth 20000 in
theorem c_stF {κ : zK} (hκ : zKg κ) {r f k : Nat} (hr : r < 60) (hf : f < 3) (hS : zS k = (0, 6, 6)) (h : zH) (hw : zWk h) : zRet κ 15 [zr (some 2), zr (some (30 + 5 * r)), zi (nI f), zr (some k)] h none (zstF h r f k) 0 0 := by
  refine zRet_of hκ (by decide) (by decide +kernel) (Nat.le_of_ble_eq_true rfl) fun ω C hK he => ?_
  refine z_aloadn C rfl rfl ?_
  refine z_gets C rfl (zS_thing r hr) rfl (hw.1.1.2.2.2.2.2.1 r hr).2.1 ?_
  refine z_iloadn C rfl rfl ?_
  refine z_aalds C rfl (zS_tarr r hr) (by decide) (by decide) (zin hf (by decide)) (by rw [zclamp hf (by decide)]; exact (hw.1.1.2.2.2.2.2.1 r hr).2.2 f hf) ?_
  refine z_aloadn C rfl rfl ?_
  refine z_callv C rfl ⟨by decide, by decide⟩ (zS_tval r hr f hf) (c_become (zKg_of C) (zS_tval r hr f hf) hS _ hw.2) rfl rfl (Nat.le_of_ble_eq_true rfl) ⟨Nat.le_of_ble_eq_true rfl, Nat.le_of_ble_eq_true rfl⟩ ?_
  refine z_aloadn C rfl rfl ?_
  refine z_geti C rfl (zS_thing r hr) rfl ?_
  refine z_aloadn C rfl rfl ?_
  refine z_calls C rfl ⟨by decide, by decide, by decide⟩ (c_noteP (zKg_of C) hS _ (zK_cp hw (zS_tval r hr f hf) hS)) rfl rfl (Nat.le_of_ble_eq_true rfl) ⟨Nat.le_of_ble_eq_true rfl, Nat.le_of_ble_eq_true rfl⟩ ?_
  exact z_return C rfl he ⟨Nat.le_refl _, Nat.le_refl _⟩ rfl

set_option maxHeartbeats 4000000 in
set_option maxRecDepth 20000 in
theorem c_stG {κ : zK} (hκ : zKg κ) {l g k : Nat} (hl : l < 3) (hg : g < 8) (hS : zS k = (0, 6, 6)) (h : zH) (hw : zWk h) : zRet κ 14 [zr (some 2), zi (nI l), zi (nI g), zr (some k)] h none (zstG h l g k) 0 0 := by
  refine zRet_of hκ (by decide) (by decide +kernel) (Nat.le_of_ble_eq_true rfl) fun ω C hK he => ?_
  refine z_aloadn C rfl rfl ?_
  refine z_iloadn C rfl rfl ?_
  refine z_iloadn C rfl rfl ?_
  refine z_callv C rfl ⟨by decide, by decide⟩ zS_2 (c_globalOf (zKg_of C) hl hg _ hw.1.1) rfl rfl (Nat.le_of_ble_eq_true rfl) ⟨Nat.le_of_ble_eq_true rfl, Nat.le_of_ble_eq_true rfl⟩ ?_
  refine z_aloadn C rfl rfl ?_
  refine z_callv C rfl ⟨by decide, by decide⟩ (zS_val24 (8 * l + g) (by omega)) (c_become (zKg_of C) (zS_val24 (8 * l + g) (by omega)) hS _ hw.2) rfl rfl (Nat.le_of_ble_eq_true rfl) ⟨Nat.le_of_ble_eq_true rfl, Nat.le_of_ble_eq_true rfl⟩ ?_
  refine z_iloadn C rfl rfl ?_
  refine z_aloadn C rfl rfl ?_
  refine z_calls C rfl ⟨by decide, by decide, by decide⟩ (c_noteP (zKg_of C) hS _ (zK_cp hw (zS_val24 (8 * l + g) (by omega)) hS)) rfl rfl (Nat.le_of_ble_eq_true rfl) ⟨Nat.le_of_ble_eq_true rfl, Nat.le_of_ble_eq_true rfl⟩ ?_
  exact z_return C rfl he ⟨Nat.le_refl _, Nat.le_refl _⟩ rfl

