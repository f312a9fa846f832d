/-! put, get -/
def zpt (h : zH) (l r n : Nat) : Int32 × zH := zcr (zcp h 853 (6 + (8 * l + n))) 853 (nI l) ((zcp h 853 (6 + (8 * l + n))).1 (30 + 5 * r) 1)
def zput (h : zH) (l r f n : Nat) : Int32 × zH := if (zpt h l r n).1 = 0 then ((zpt h l r n).1, zsettle (zstF (zpt h l r n).2 r f 853)) else zpt h l r n
theorem zK_pt {h : zH} (hw : zWk h) {l r n : Nat} (hl : l < 3) (hn : n < 8) : zWk (zpt h l r n).2 := zK_cr (zK_cp hw zS_853 (zS_val24 (8 * l + n) (by omega))) zS_853
def zgt (h : zH) (l r f : Nat) : Int32 × zH := zcr (zcp h 853 (32 + 5 * r + f)) 853 ((zcp h 853 (32 + 5 * r + f)).1 (30 + 5 * r) 1) (nI l)
def zget (h : zH) (l r f n : Nat) : Int32 × zH := if (zgt h l r f).1 = 0 then ((zgt h l r f).1, zsettle (zstG (zgt h l r f).2 l n 853)) else zgt h l r f
theorem zK_gt {h : zH} (hw : zWk h) {l r f : Nat} (hr : r < 60) (hf : f < 3) : zWk (zgt h l r f).2 := zK_cr (zK_cp hw zS_853 (zS_tval r hr f hf)) zS_853

set_option maxHeartbeats 400000 in
set_option maxRecDepth 20000 in
theorem c_put {κ : zK} (hκ : zKg κ) {l g r f n : Nat} (hl : l < 3) (hg : g < 8) (hr : r < 60) (hf : f < 3) (hn : n < 8) (h : zH) (hw : zWk h) (hre : zisRef h (6 + (8 * l + g)) = true) (ht : h.2.2.2 (6 + (8 * l + g)) 5 = some (30 + 5 * r)) : zRet κ 103 [zr (some 0), zi (nI l), zi (nI g), zi (nI f), zi (nI n)] h (some (zi (zput h l r f n).1)) (zput h l r f n).2 0 0 := by
  refine zRet_of hκ (by decide) (by decide +kernel) (Nat.le_of_ble_eq_true rfl) fun ω C hK he => ?_
  refine z_iloadn C rfl rfl ?_
  refine z_iloadn C rfl rfl ?_
  refine z_calls C rfl ⟨by decide, by decide, by decide⟩ (c_reqG (zKg_of C) (zwt hl (by decide)) (zwt hg (by decide)) _) rfl rfl (Nat.le_of_ble_eq_true rfl) ⟨(Nat.le_of_ble_eq_true rfl), (Nat.le_of_ble_eq_true rfl)⟩ ?_
  refine z_iloadn C rfl rfl ?_
  refine z_iload C rfl rfl ?_
  refine z_calls C rfl ⟨by decide, by decide, by decide⟩ (c_reqG (zKg_of C) (zwt hl (by decide)) (zwt hn (by decide)) _) rfl rfl (Nat.le_of_ble_eq_true rfl) ⟨(Nat.le_of_ble_eq_true rfl), (Nat.le_of_ble_eq_true rfl)⟩ ?_
  refine z_iloadn C rfl rfl ?_
  refine z_iconst C rfl ?_
  refine z_calls C rfl ⟨by decide, by decide, by decide⟩ (c_reqI (zKg_of C) (zwt hf (by decide)) _) rfl rfl (Nat.le_of_ble_eq_true rfl) ⟨(Nat.le_of_ble_eq_true rfl), (Nat.le_of_ble_eq_true rfl)⟩ ?_
  refine z_aloadn C rfl rfl ?_
  refine z_iloadn C rfl rfl ?_
  refine z_iloadn C rfl rfl ?_
  refine z_callv C rfl ⟨by decide, by decide⟩ zS_0 (c_refT (zKg_of C) hl hg _ hw hre ht) rfl rfl (Nat.le_of_ble_eq_true rfl) ⟨(Nat.le_of_ble_eq_true rfl), (Nat.le_of_ble_eq_true rfl)⟩ ?_
  refine z_astore C rfl ?_
  refine z_aloadn C rfl rfl ?_
  refine z_gets C rfl zS_0 rfl hw.1.1.1.2.2 ?_
  refine z_aloadn C rfl rfl ?_
  refine z_gets C rfl zS_0 rfl hw.1.1.1.2.1 ?_
  refine z_iloadn C rfl rfl ?_
  refine z_iload C rfl rfl ?_
  refine z_callv C rfl ⟨by decide, by decide⟩ zS_2 (c_globalOf (zKg_of C) hl hn _ hw.1.1) rfl rfl (Nat.le_of_ble_eq_true rfl) ⟨(Nat.le_of_ble_eq_true rfl), (Nat.le_of_ble_eq_true rfl)⟩ ?_
  refine z_callv C rfl ⟨by decide, by decide⟩ zS_853 (c_become (zKg_of C) zS_853 (zS_val24 (8 * l + n) (by omega)) _ hw.2) rfl rfl (Nat.le_of_ble_eq_true rfl) ⟨(Nat.le_of_ble_eq_true rfl), (Nat.le_of_ble_eq_true rfl)⟩ ?_
  have hw1 := zK_cp hw zS_853 (zS_val24 (8 * l + n) (by omega))
  have hw2 := zK_pt (r := r) hw hl hn
  refine z_aloadn C rfl rfl ?_
  refine z_gets C rfl zS_0 rfl hw1.1.1.1.2.2 ?_
  refine z_iloadn C rfl rfl ?_
  refine z_aload C rfl rfl ?_
  refine z_geti C rfl (zS_thing r hr) rfl ?_
  refine z_calls C rfl ⟨by decide, by decide, by decide⟩ (c_cross (zKg_of C) zS_853 _) rfl rfl (Nat.le_of_ble_eq_true rfl) ⟨(Nat.le_of_ble_eq_true rfl), (Nat.le_of_ble_eq_true rfl)⟩ ?_
  refine z_istore C rfl ?_
  refine z_iload C rfl rfl ?_
  refine z_if C rfl (fun hc1 => ?_) (fun hc1 => ?_)
  · skip
    skip
    refine z_iload C rfl rfl ?_
    exact z_ireturn C rfl (by first | (have e : zput h l r f n = ((zpt h l r n).1, zsettle (zstF (zpt h l r n).2 r f 853)) := (by unfold zput; exact if_pos q0); rw [e] at he; dsimp only at he; unfold zpt at he; exact he) | (have q1 : ¬ (zpt h l r n).1 = 0 := hc1; have e : zput h l r f n = zpt h l r n := (by unfold zput; exact if_neg q1); rw [e] at he; unfold zpt at he; exact he)) ⟨Nat.le_refl _, Nat.le_refl _⟩ rfl
  · skip
    skip
    have q0 : (zpt h l r n).1 = 0 := Decidable.of_not_not hc1
    refine z_aloadn C rfl rfl ?_
    refine z_gets C rfl zS_0 rfl hw2.1.1.1.2.1 ?_
    refine z_aload C rfl rfl ?_
    refine z_iloadn C rfl rfl ?_
    refine z_aloadn C rfl rfl ?_
    refine z_gets C rfl zS_0 rfl hw2.1.1.1.2.2 ?_
    refine z_callv C rfl ⟨by decide, by decide⟩ zS_2 (c_stF (zKg_of C) hr hf zS_853 _ hw2) rfl rfl (Nat.le_of_ble_eq_true rfl) ⟨(Nat.le_of_ble_eq_true rfl), (Nat.le_of_ble_eq_true rfl)⟩ ?_
    have hw3 := zK_stF hw2 hr hf zS_853
    refine z_aloadn C rfl rfl ?_
    refine z_gets C rfl zS_0 rfl hw3.1.1.1.2.1 ?_
    refine z_callv C rfl ⟨by decide, by decide⟩ zS_2 (c_settle (zKg_of C) _ hw3) rfl rfl (Nat.le_of_ble_eq_true rfl) ⟨(Nat.le_of_ble_eq_true rfl), (Nat.le_of_ble_eq_true rfl)⟩ ?_
    refine z_pop C rfl rfl ?_
    refine z_iload C rfl rfl ?_
    exact z_ireturn C rfl (by first | (have e : zput h l r f n = ((zpt h l r n).1, zsettle (zstF (zpt h l r n).2 r f 853)) := (by unfold zput; exact if_pos q0); rw [e] at he; dsimp only at he; unfold zpt at he; exact he) | (have q1 : ¬ (zpt h l r n).1 = 0 := hc1; have e : zput h l r f n = zpt h l r n := (by unfold zput; exact if_neg q1); rw [e] at he; unfold zpt at he; exact he)) ⟨Nat.le_refl _, Nat.le_refl _⟩ rfl

set_option maxHeartbeats 400000 in
set_option maxRecDepth 20000 in
theorem c_get {κ : zK} (hκ : zKg κ) {l g r f n : Nat} (hl : l < 3) (hg : g < 8) (hr : r < 60) (hf : f < 3) (hn : n < 8) (h : zH) (hw : zWk h) (hre : zisRef h (6 + (8 * l + g)) = true) (ht : h.2.2.2 (6 + (8 * l + g)) 5 = some (30 + 5 * r)) : zRet κ 104 [zr (some 0), zi (nI l), zi (nI g), zi (nI f), zi (nI n)] h (some (zi (zget h l r f n).1)) (zget h l r f n).2 0 0 := by
  refine zRet_of hκ (by decide) (by decide +kernel) (Nat.le_of_ble_eq_true rfl) fun ω C hK he => ?_
  refine z_iloadn C rfl rfl ?_
  refine z_iloadn C rfl rfl ?_
  refine z_calls C rfl ⟨by decide, by decide, by decide⟩ (c_reqG (zKg_of C) (zwt hl (by decide)) (zwt hg (by decide)) _) rfl rfl (Nat.le_of_ble_eq_true rfl) ⟨(Nat.le_of_ble_eq_true rfl), (Nat.le_of_ble_eq_true rfl)⟩ ?_
  refine z_iloadn C rfl rfl ?_
  refine z_iload C rfl rfl ?_
  refine z_calls C rfl ⟨by decide, by decide, by decide⟩ (c_reqG (zKg_of C) (zwt hl (by decide)) (zwt hn (by decide)) _) rfl rfl (Nat.le_of_ble_eq_true rfl) ⟨(Nat.le_of_ble_eq_true rfl), (Nat.le_of_ble_eq_true rfl)⟩ ?_
  refine z_iloadn C rfl rfl ?_
  refine z_iconst C rfl ?_
  refine z_calls C rfl ⟨by decide, by decide, by decide⟩ (c_reqI (zKg_of C) (zwt hf (by decide)) _) rfl rfl (Nat.le_of_ble_eq_true rfl) ⟨(Nat.le_of_ble_eq_true rfl), (Nat.le_of_ble_eq_true rfl)⟩ ?_
  refine z_aloadn C rfl rfl ?_
  refine z_iloadn C rfl rfl ?_
  refine z_iloadn C rfl rfl ?_
  refine z_callv C rfl ⟨by decide, by decide⟩ zS_0 (c_refT (zKg_of C) hl hg _ hw hre ht) rfl rfl (Nat.le_of_ble_eq_true rfl) ⟨(Nat.le_of_ble_eq_true rfl), (Nat.le_of_ble_eq_true rfl)⟩ ?_
  refine z_astore C rfl ?_
  refine z_aloadn C rfl rfl ?_
  refine z_gets C rfl zS_0 rfl hw.1.1.1.2.2 ?_
  refine z_aload C rfl rfl ?_
  refine z_gets C rfl (zS_thing r hr) rfl (hw.1.1.2.2.2.2.2.1 r hr).2.1 ?_
  refine z_iloadn C rfl rfl ?_
  refine z_aalds C rfl (zS_tarr r hr) (by decide) (by decide) (zin hf (by decide)) (by rw [zclamp hf (by decide)]; exact (hw.1.1.2.2.2.2.2.1 r hr).2.2 f hf) ?_
  refine z_callv C rfl ⟨by decide, by decide⟩ zS_853 (c_become (zKg_of C) zS_853 (zS_tval r hr f hf) _ hw.2) rfl rfl (Nat.le_of_ble_eq_true rfl) ⟨(Nat.le_of_ble_eq_true rfl), (Nat.le_of_ble_eq_true rfl)⟩ ?_
  have hw1 := zK_cp hw zS_853 (zS_tval r hr f hf)
  have hw2 := zK_gt (l := l) hw hr hf
  refine z_aloadn C rfl rfl ?_
  refine z_gets C rfl zS_0 rfl hw1.1.1.1.2.2 ?_
  refine z_aload C rfl rfl ?_
  refine z_geti C rfl (zS_thing r hr) rfl ?_
  refine z_iloadn C rfl rfl ?_
  refine z_calls C rfl ⟨by decide, by decide, by decide⟩ (c_cross (zKg_of C) zS_853 _) rfl rfl (Nat.le_of_ble_eq_true rfl) ⟨(Nat.le_of_ble_eq_true rfl), (Nat.le_of_ble_eq_true rfl)⟩ ?_
  refine z_istore C rfl ?_
  refine z_iload C rfl rfl ?_
  refine z_if C rfl (fun hc1 => ?_) (fun hc1 => ?_)
  · skip
    skip
    refine z_iload C rfl rfl ?_
    exact z_ireturn C rfl (by first | (have e : zget h l r f n = ((zgt h l r f).1, zsettle (zstG (zgt h l r f).2 l n 853)) := (by unfold zget; exact if_pos q0); rw [e] at he; dsimp only at he; unfold zgt at he; exact he) | (have q1 : ¬ (zgt h l r f).1 = 0 := hc1; have e : zget h l r f n = zgt h l r f := (by unfold zget; exact if_neg q1); rw [e] at he; unfold zgt at he; exact he)) ⟨Nat.le_refl _, Nat.le_refl _⟩ rfl
  · skip
    skip
    have q0 : (zgt h l r f).1 = 0 := Decidable.of_not_not hc1
    refine z_aloadn C rfl rfl ?_
    refine z_gets C rfl zS_0 rfl hw2.1.1.1.2.1 ?_
    refine z_iloadn C rfl rfl ?_
    refine z_iload C rfl rfl ?_
    refine z_aloadn C rfl rfl ?_
    refine z_gets C rfl zS_0 rfl hw2.1.1.1.2.2 ?_
    refine z_callv C rfl ⟨by decide, by decide⟩ zS_2 (c_stG (zKg_of C) hl hn zS_853 _ hw2) rfl rfl (Nat.le_of_ble_eq_true rfl) ⟨(Nat.le_of_ble_eq_true rfl), (Nat.le_of_ble_eq_true rfl)⟩ ?_
    have hw3 := zK_stG hw2 hl hn zS_853
    refine z_aloadn C rfl rfl ?_
    refine z_gets C rfl zS_0 rfl hw3.1.1.1.2.1 ?_
    refine z_callv C rfl ⟨by decide, by decide⟩ zS_2 (c_settle (zKg_of C) _ hw3) rfl rfl (Nat.le_of_ble_eq_true rfl) ⟨(Nat.le_of_ble_eq_true rfl), (Nat.le_of_ble_eq_true rfl)⟩ ?_
    refine z_pop C rfl rfl ?_
    refine z_iload C rfl rfl ?_
    exact z_ireturn C rfl (by first | (have e : zget h l r f n = ((zgt h l r f).1, zsettle (zstG (zgt h l r f).2 l n 853)) := (by unfold zget; exact if_pos q0); rw [e] at he; dsimp only at he; unfold zgt at he; exact he) | (have q1 : ¬ (zgt h l r f).1 = 0 := hc1; have e : zget h l r f n = zgt h l r f := (by unfold zget; exact if_neg q1); rw [e] at he; unfold zgt at he; exact he)) ⟨Nat.le_refl _, Nat.le_refl _⟩ rfl

