/-! small faces -/
theorem zheld_nar {h : zH} (hw : zWk h) {t : Nat} (hS : zS t = (0, 5, 6)) : narrow FieldType.boolean (Value.int (zheld h t)) = Value.int (zheld h t) := by
  unfold zheld
  split
  · rcases (hw.2.2.1 t hS).1 with e | e <;> rw [e] <;> rfl
  · cases decide (0 < h.1 t 4) <;> rfl
set_option maxHeartbeats 600000 in
set_option maxRecDepth 20000 in
theorem c_made {κ : zK} (hκ : zKg κ)  (h : zH) (hw : zWk h) : zRet κ 108 [zr (some 0)] h (some (zi (h.1 2 4))) h 0 0 := by
  refine zRet_of hκ (by decide) (by decide +kernel) (Nat.le_of_ble_eq_true rfl) fun ω C hK he => ?_
  refine z_aloadn C rfl rfl ?_
  refine z_gets C rfl zS_0 rfl hw.1.1.1.2.1 ?_
  refine z_geti C rfl zS_2 rfl ?_
  exact z_ireturn C rfl he ⟨Nat.le_refl _, Nat.le_refl _⟩ rfl

set_option maxHeartbeats 600000 in
set_option maxRecDepth 20000 in
theorem c_freed {κ : zK} (hκ : zKg κ)  (h : zH) (hw : zWk h) : zRet κ 115 [zr (some 0)] h (some (zi (h.1 2 5))) h 0 0 := by
  refine zRet_of hκ (by decide) (by decide +kernel) (Nat.le_of_ble_eq_true rfl) fun ω C hK he => ?_
  refine z_aloadn C rfl rfl ?_
  refine z_gets C rfl zS_0 rfl hw.1.1.1.2.1 ?_
  refine z_geti C rfl zS_2 rfl ?_
  exact z_ireturn C rfl he ⟨Nat.le_refl _, Nat.le_refl _⟩ rfl

set_option maxHeartbeats 600000 in
set_option maxRecDepth 20000 in
theorem c_crossings {κ : zK} (hκ : zKg κ)  (h : zH) (hw : zWk h) : zRet κ 116 [zr (some 0)] h (some (zj (h.2.1 1 8))) h 0 0 := by
  refine zRet_of hκ (by decide) (by decide +kernel) (Nat.le_of_ble_eq_true rfl) fun ω C hK he => ?_
  refine z_aloadn C rfl rfl ?_
  refine z_gets C rfl zS_0 rfl hw.1.1.1.1 ?_
  refine z_getj C rfl zS_1 rfl ?_
  exact z_lreturn C rfl he ⟨Nat.le_refl _, Nat.le_refl _⟩ rfl

set_option maxHeartbeats 600000 in
set_option maxRecDepth 20000 in
theorem c_collect {κ : zK} (hκ : zKg κ)  (h : zH) (hw : zWk h) : zRet κ 113 [zr (some 0)] h (some (zi ((zfreeU h (Int32.ofInt (Int.ofNat 0))).1 2 5 - h.1 2 5))) (zfreeU h (Int32.ofInt (Int.ofNat 0))) 0 0 := by
  refine zRet_of hκ (by decide) (by decide +kernel) (Nat.le_of_ble_eq_true rfl) fun ω C hK he => ?_
  refine z_aloadn C rfl rfl ?_
  refine z_gets C rfl zS_0 rfl hw.1.1.1.2.1 ?_
  refine z_iconst C rfl ?_
  refine z_callv C rfl ⟨by decide, by decide⟩ zS_2 (c_freeU (zKg_of C) _ hw) rfl rfl (Nat.le_of_ble_eq_true rfl) ⟨(Nat.le_of_ble_eq_true rfl), (Nat.le_of_ble_eq_true rfl)⟩ ?_
  exact z_ireturn C rfl he ⟨Nat.le_refl _, Nat.le_refl _⟩ rfl

set_option maxHeartbeats 600000 in
set_option maxRecDepth 20000 in
theorem c_collectR {κ : zK} (hκ : zKg κ)  (h : zH) (hw : zWk h) : zRet κ 114 [zr (some 0)] h (some (zi ((zfreeU h (Int32.ofInt (Int.ofNat 1))).1 2 5 - h.1 2 5))) (zfreeU h (Int32.ofInt (Int.ofNat 1))) 0 0 := by
  refine zRet_of hκ (by decide) (by decide +kernel) (Nat.le_of_ble_eq_true rfl) fun ω C hK he => ?_
  refine z_aloadn C rfl rfl ?_
  refine z_gets C rfl zS_0 rfl hw.1.1.1.2.1 ?_
  refine z_iconst C rfl ?_
  refine z_callv C rfl ⟨by decide, by decide⟩ zS_2 (c_freeU (zKg_of C) _ hw) rfl rfl (Nat.le_of_ble_eq_true rfl) ⟨(Nat.le_of_ble_eq_true rfl), (Nat.le_of_ble_eq_true rfl)⟩ ?_
  exact z_ireturn C rfl he ⟨Nat.le_refl _, Nat.le_refl _⟩ rfl

set_option maxHeartbeats 600000 in
set_option maxRecDepth 20000 in
theorem c_isSound {κ : zK} (hκ : zKg κ)  (h : zH) (hw : zWk h) : zRet κ 117 [zr (some 0)] h (some (zi (zB (zhold (ztally h))))) (ztally h) 0 0 := by
  refine zRet_of hκ (by decide) (by decide +kernel) (Nat.le_of_ble_eq_true rfl) fun ω C hK he => ?_
  refine z_aloadn C rfl rfl ?_
  refine z_gets C rfl zS_0 rfl hw.1.1.1.2.1 ?_
  refine z_callv C rfl ⟨by decide, by decide⟩ zS_2 (c_hold (zKg_of C) _ hw) rfl rfl (Nat.le_of_ble_eq_true rfl) ⟨(Nat.le_of_ble_eq_true rfl), (Nat.le_of_ble_eq_true rfl)⟩ ?_
  exact z_zreturn C rfl he ⟨Nat.le_refl _, Nat.le_refl _⟩ rfl (by generalize zhold (ztally h) = b; cases b <;> rfl)

set_option maxHeartbeats 600000 in
set_option maxRecDepth 20000 in
theorem c_thingsF {κ : zK} (hκ : zKg κ) {x : Int32} (h3 : zwithin x (Int32.ofInt (Int.ofNat 3)) = true)  (h : zH) (hw : zWk h) : zRet κ 109 [zr (some 0), zi x] h (some (zi (zcnt h x 60 0 (Int32.ofInt (Int.ofNat 0))))) h 0 0 := by
  refine zRet_of hκ (by decide) (by decide +kernel) (Nat.le_of_ble_eq_true rfl) fun ω C hK he => ?_
  refine z_iloadn C rfl rfl ?_
  refine z_iconst C rfl ?_
  refine z_calls C rfl ⟨by decide, by decide, by decide⟩ (c_reqI (zKg_of C) h3 _) rfl rfl (Nat.le_of_ble_eq_true rfl) ⟨(Nat.le_of_ble_eq_true rfl), (Nat.le_of_ble_eq_true rfl)⟩ ?_
  refine z_aloadn C rfl rfl ?_
  refine z_gets C rfl zS_0 rfl hw.1.1.1.2.1 ?_
  refine z_iloadn C rfl rfl ?_
  refine z_callv C rfl ⟨by decide, by decide⟩ zS_2 (c_things (zKg_of C) _ hw) rfl rfl (Nat.le_of_ble_eq_true rfl) ⟨(Nat.le_of_ble_eq_true rfl), (Nat.le_of_ble_eq_true rfl)⟩ ?_
  exact z_ireturn C rfl he ⟨Nat.le_refl _, Nat.le_refl _⟩ rfl

set_option maxHeartbeats 600000 in
set_option maxRecDepth 20000 in
theorem t_thingsF {κ : zK} (hκ : zKg κ) {x : Int32} (h3 : zwithin x (Int32.ofInt (Int.ofNat 3)) = false)  (h : zH) : zThr κ 109 [zr (some 0), zi x] h 4 h 1 6 := by
  refine zThr_of hκ (by decide) (by decide +kernel) (Nat.le_of_ble_eq_true rfl) fun ω C hK he => ?_
  refine z_iloadn C rfl rfl ?_
  refine z_iconst C rfl ?_
  exact z_callsX C rfl ⟨by decide, by decide, by decide⟩ (by decide +kernel) he (t_requireIndex (zKg_of C) h3 _) rfl rfl (Nat.le_of_ble_eq_true rfl) ⟨(Nat.le_of_ble_eq_true rfl), (Nat.le_of_ble_eq_true rfl)⟩

set_option maxHeartbeats 600000 in
set_option maxRecDepth 20000 in
theorem c_isThere {κ : zK} (hκ : zKg κ) {n : Int32} (h : zH) (hw : zWk h) (hn : zwithin n (h.1 2 4) = true) : zRet κ 110 [zr (some 0), zi n] h (some (zi (zB (zfnd h n 60 0).isSome))) h 0 0 := by
  refine zRet_of hκ (by decide) (by decide +kernel) (Nat.le_of_ble_eq_true rfl) fun ω C hK he => ?_
  refine z_iloadn C rfl rfl ?_
  refine z_aloadn C rfl rfl ?_
  refine z_gets C rfl zS_0 rfl hw.1.1.1.2.1 ?_
  refine z_geti C rfl zS_2 rfl ?_
  refine z_calls C rfl ⟨by decide, by decide, by decide⟩ (c_reqI (zKg_of C) hn _) rfl rfl (Nat.le_of_ble_eq_true rfl) ⟨(Nat.le_of_ble_eq_true rfl), (Nat.le_of_ble_eq_true rfl)⟩ ?_
  refine z_aloadn C rfl rfl ?_
  refine z_gets C rfl zS_0 rfl hw.1.1.1.2.1 ?_
  refine z_iloadn C rfl rfl ?_
  refine z_callv C rfl ⟨by decide, by decide⟩ zS_2 (c_find (zKg_of C) _ hw.1.1) rfl rfl (Nat.le_of_ble_eq_true rfl) ⟨(Nat.le_of_ble_eq_true rfl), (Nat.le_of_ble_eq_true rfl)⟩ ?_
  refine z_ifnull C rfl (fun hq1 => ?_) (fun r1 hq1 => ?_)
  · skip
    refine z_iconst C rfl ?_
    exact z_zreturn C rfl (by rw [hq1] at he; exact he) ⟨Nat.le_refl _, Nat.le_refl _⟩ rfl rfl
  · skip
    refine z_iconst C rfl ?_
    refine z_goto C rfl ?_
    exact z_zreturn C rfl (by rw [hq1] at he; exact he) ⟨Nat.le_refl _, Nat.le_refl _⟩ rfl rfl

set_option maxHeartbeats 600000 in
set_option maxRecDepth 20000 in
theorem t_isThere {κ : zK} (hκ : zKg κ) {n : Int32} (h : zH) (hw : zWk h) (hn : zwithin n (h.1 2 4) = false) : zThr κ 110 [zr (some 0), zi n] h 4 h 1 6 := by
  refine zThr_of hκ (by decide) (by decide +kernel) (Nat.le_of_ble_eq_true rfl) fun ω C hK he => ?_
  refine z_iloadn C rfl rfl ?_
  refine z_aloadn C rfl rfl ?_
  refine z_gets C rfl zS_0 rfl hw.1.1.1.2.1 ?_
  refine z_geti C rfl zS_2 rfl ?_
  exact z_callsX C rfl ⟨by decide, by decide, by decide⟩ (by decide +kernel) he (t_requireIndex (zKg_of C) hn _) rfl rfl (Nat.le_of_ble_eq_true rfl) ⟨(Nat.le_of_ble_eq_true rfl), (Nat.le_of_ble_eq_true rfl)⟩

set_option maxHeartbeats 600000 in
set_option maxRecDepth 20000 in
theorem c_hasPH {κ : zK} (hκ : zKg κ) {t : Nat} (hS : zS t = (0, 5, 6)) (h : zH) (hw : zWk h) : zRet κ 69 [zr (some t)] h (some (zi (zheld h t))) h 0 0 := by
  refine zRet_of hκ (by decide) (by decide +kernel) (Nat.le_of_ble_eq_true rfl) fun ω C hK he => ?_
  refine z_aloadn C rfl rfl ?_
  refine z_geti C rfl hS rfl ?_
  refine z_if C rfl (fun hc1 => ?_) (fun hc1 => ?_)
  · skip
    skip
    refine z_aloadn C rfl rfl ?_
    refine z_geti C rfl hS rfl ?_
    refine z_if C rfl (fun hc2 => ?_) (fun hc2 => ?_)
    · skip
      skip
      refine z_iconst C rfl ?_
      exact z_zreturn C rfl (zER_eq he (by first | rfl | simp_all [xCmp, zheld, zgt0, zB0, zBt, zBf]) (by first | rfl | simp_all [xCmp, zheld, zgt0, zB0, zBt, zBf])) ⟨Nat.le_refl _, Nat.le_refl _⟩ rfl (by first | rfl | (rcases (hw.2.2.1 t hS).1 with e | e <;> rw [e] <;> rfl))
    · skip
      skip
      refine z_iconst C rfl ?_
      refine z_goto C rfl ?_
      exact z_zreturn C rfl (zER_eq he (by first | rfl | simp_all [xCmp, zheld, zgt0, zB0, zBt, zBf]) (by first | rfl | simp_all [xCmp, zheld, zgt0, zB0, zBt, zBf])) ⟨Nat.le_refl _, Nat.le_refl _⟩ rfl (by first | rfl | (rcases (hw.2.2.1 t hS).1 with e | e <;> rw [e] <;> rfl))
  · skip
    skip
    refine z_aloadn C rfl rfl ?_
    refine z_geti C rfl hS rfl ?_
    refine z_goto C rfl ?_
    exact z_zreturn C rfl (zER_eq he (by first | rfl | simp_all [xCmp, zheld, zgt0, zB0, zBt, zBf]) (by first | rfl | simp_all [xCmp, zheld, zgt0, zB0, zBt, zBf])) ⟨Nat.le_refl _, Nat.le_refl _⟩ rfl (by first | rfl | (rcases (hw.2.2.1 t hS).1 with e | e <;> rw [e] <;> rfl))

set_option maxHeartbeats 600000 in
set_option maxRecDepth 20000 in
theorem c_count {κ : zK} (hκ : zKg κ) {n : Int32} {t : Nat} (h : zH) (hw : zWk h) (hn : zwithin n (h.1 2 4) = true) (hf : zfnd h n 60 0 = some t) : zRet κ 111 [zr (some 0), zi n] h (some (zi (zown (ztally h) t))) (ztally h) 0 0 := by
  refine zRet_of hκ (by decide) (by decide +kernel) (Nat.le_of_ble_eq_true rfl) fun ω C hK he => ?_
  refine z_aloadn C rfl rfl ?_
  refine z_iloadn C rfl rfl ?_
  refine z_callv C rfl ⟨by decide, by decide⟩ zS_0 (c_thT (zKg_of C) _ hw hn hf) rfl rfl (Nat.le_of_ble_eq_true rfl) ⟨(Nat.le_of_ble_eq_true rfl), (Nat.le_of_ble_eq_true rfl)⟩ ?_
  refine z_astoren C rfl ?_
  refine z_aloadn C rfl rfl ?_
  refine z_gets C rfl zS_0 rfl hw.1.1.1.2.1 ?_
  refine z_callv C rfl ⟨by decide, by decide⟩ zS_2 (c_tally (zKg_of C) _ hw.1) rfl rfl (Nat.le_of_ble_eq_true rfl) ⟨(Nat.le_of_ble_eq_true rfl), (Nat.le_of_ble_eq_true rfl)⟩ ?_
  refine z_aloadn C rfl rfl ?_
  refine z_callv C rfl ⟨by decide, by decide⟩ (zTh_S (zfnd_th 60 0 rfl hf)) (c_ownCount (zKg_of C) (zTh_S (zfnd_th 60 0 rfl hf)) _) rfl rfl (Nat.le_of_ble_eq_true rfl) ⟨(Nat.le_of_ble_eq_true rfl), (Nat.le_of_ble_eq_true rfl)⟩ ?_
  exact z_ireturn C rfl he ⟨Nat.le_refl _, Nat.le_refl _⟩ rfl

set_option maxHeartbeats 600000 in
set_option maxRecDepth 20000 in
theorem t_count1 {κ : zK} (hκ : zKg κ) {n : Int32} (h : zH) (hw : zWk h) (hn : zwithin n (h.1 2 4) = false) : zThr κ 111 [zr (some 0), zi n] h 4 h 1 6 := by
  refine zThr_of hκ (by decide) (by decide +kernel) (Nat.le_of_ble_eq_true rfl) fun ω C hK he => ?_
  refine z_aloadn C rfl rfl ?_
  refine z_iloadn C rfl rfl ?_
  exact z_callvX C rfl ⟨by decide, by decide⟩ zS_0 (by decide +kernel) he (t_thT1 (zKg_of C) _ hw hn) rfl rfl (Nat.le_of_ble_eq_true rfl) ⟨(Nat.le_of_ble_eq_true rfl), (Nat.le_of_ble_eq_true rfl)⟩

set_option maxHeartbeats 600000 in
set_option maxRecDepth 20000 in
theorem t_count2 {κ : zK} (hκ : zKg κ) {n : Int32} (h : zH) (hw : zWk h) (hn : zwithin n (h.1 2 4) = true) (hf : zfnd h n 60 0 = none) : zThr κ 111 [zr (some 0), zi n] h 2 h 1 6 := by
  refine zThr_of hκ (by decide) (by decide +kernel) (Nat.le_of_ble_eq_true rfl) fun ω C hK he => ?_
  refine z_aloadn C rfl rfl ?_
  refine z_iloadn C rfl rfl ?_
  exact z_callvX C rfl ⟨by decide, by decide⟩ zS_0 (by decide +kernel) he (t_thT2 (zKg_of C) _ hw hn hf) rfl rfl (Nat.le_of_ble_eq_true rfl) ⟨(Nat.le_of_ble_eq_true rfl), (Nat.le_of_ble_eq_true rfl)⟩

set_option maxHeartbeats 600000 in
set_option maxRecDepth 20000 in
theorem c_isHeld {κ : zK} (hκ : zKg κ) {n : Int32} {t : Nat} (h : zH) (hw : zWk h) (hn : zwithin n (h.1 2 4) = true) (hf : zfnd h n 60 0 = some t) : zRet κ 112 [zr (some 0), zi n] h (some (zi (zheld (ztally h) t))) (ztally h) 0 0 := by
  refine zRet_of hκ (by decide) (by decide +kernel) (Nat.le_of_ble_eq_true rfl) fun ω C hK he => ?_
  refine z_aloadn C rfl rfl ?_
  refine z_iloadn C rfl rfl ?_
  refine z_callv C rfl ⟨by decide, by decide⟩ zS_0 (c_thT (zKg_of C) _ hw hn hf) rfl rfl (Nat.le_of_ble_eq_true rfl) ⟨(Nat.le_of_ble_eq_true rfl), (Nat.le_of_ble_eq_true rfl)⟩ ?_
  refine z_astoren C rfl ?_
  refine z_aloadn C rfl rfl ?_
  refine z_gets C rfl zS_0 rfl hw.1.1.1.2.1 ?_
  refine z_callv C rfl ⟨by decide, by decide⟩ zS_2 (c_tally (zKg_of C) _ hw.1) rfl rfl (Nat.le_of_ble_eq_true rfl) ⟨(Nat.le_of_ble_eq_true rfl), (Nat.le_of_ble_eq_true rfl)⟩ ?_
  refine z_aloadn C rfl rfl ?_
  refine z_callv C rfl ⟨by decide, by decide⟩ (zTh_S (zfnd_th 60 0 rfl hf)) (c_hasPH (zKg_of C) (zTh_S (zfnd_th 60 0 rfl hf)) _ (zK_tally hw)) rfl rfl (Nat.le_of_ble_eq_true rfl) ⟨(Nat.le_of_ble_eq_true rfl), (Nat.le_of_ble_eq_true rfl)⟩ ?_
  exact z_zreturn C rfl he ⟨Nat.le_refl _, Nat.le_refl _⟩ rfl (zheld_nar (zK_tally hw) (zTh_S (zfnd_th 60 0 rfl hf)))

set_option maxHeartbeats 600000 in
set_option maxRecDepth 20000 in
theorem t_isHeld1 {κ : zK} (hκ : zKg κ) {n : Int32} (h : zH) (hw : zWk h) (hn : zwithin n (h.1 2 4) = false) : zThr κ 112 [zr (some 0), zi n] h 4 h 1 6 := by
  refine zThr_of hκ (by decide) (by decide +kernel) (Nat.le_of_ble_eq_true rfl) fun ω C hK he => ?_
  refine z_aloadn C rfl rfl ?_
  refine z_iloadn C rfl rfl ?_
  exact z_callvX C rfl ⟨by decide, by decide⟩ zS_0 (by decide +kernel) he (t_thT1 (zKg_of C) _ hw hn) rfl rfl (Nat.le_of_ble_eq_true rfl) ⟨(Nat.le_of_ble_eq_true rfl), (Nat.le_of_ble_eq_true rfl)⟩

set_option maxHeartbeats 600000 in
set_option maxRecDepth 20000 in
theorem t_isHeld2 {κ : zK} (hκ : zKg κ) {n : Int32} (h : zH) (hw : zWk h) (hn : zwithin n (h.1 2 4) = true) (hf : zfnd h n 60 0 = none) : zThr κ 112 [zr (some 0), zi n] h 2 h 1 6 := by
  refine zThr_of hκ (by decide) (by decide +kernel) (Nat.le_of_ble_eq_true rfl) fun ω C hK he => ?_
  refine z_aloadn C rfl rfl ?_
  refine z_iloadn C rfl rfl ?_
  exact z_callvX C rfl ⟨by decide, by decide⟩ zS_0 (by decide +kernel) he (t_thT2 (zKg_of C) _ hw hn hf) rfl rfl (Nat.le_of_ble_eq_true rfl) ⟨(Nat.le_of_ble_eq_true rfl), (Nat.le_of_ble_eq_true rfl)⟩

theorem zwt {i n : Nat} (hi : i < n) (hn : n < 2 ^ 31) : zwithin (nI i) (Int32.ofNat n) = true := by
  unfold zwithin
  rw [Bool.and_eq_true, decide_eq_true_iff, decide_eq_true_iff]
  exact ⟨Int32.not_lt.mp (nI_pos (by omega)), nI_lt hi hn⟩
def zset (h : zH) (l g : Nat) (x : Int32) : zH := zsettle (zstG (zbNum h 853 (nI l) x) l g 853)
theorem zK_set4 {h : zH} (hw : zWk h) {l g : Nat} {x : Int32} (hl : l < 3) (hg : g < 8) : zWk (zstG (zbNum h 853 (nI l) x) l g 853) := zK_stG (zK_bNum hw zS_853) hl hg zS_853

set_option maxHeartbeats 600000 in
set_option maxRecDepth 20000 in
theorem c_set {κ : zK} (hκ : zKg κ) {l g : Nat} {x : Int32} (hl : l < 3) (hg : g < 8)  (h : zH) (hw : zWk h) : zRet κ 100 [zr (some 0), zi (nI l), zi (nI g), zi x] h (some (zi ((zset h l g x).1 2 5 - (zstG (zbNum h 853 (nI l) x) l g 853).1 2 5))) (zset h l g x) 0 0 := by
  refine zRet_of hκ (by decide) (by decide +kernel) (Nat.le_of_ble_eq_true rfl) fun ω C hK he => ?_
  refine z_iloadn C rfl rfl ?_
  refine z_iloadn C rfl rfl ?_
  refine z_calls C rfl ⟨by decide, by decide, by decide⟩ (c_reqG (zKg_of C) (zwt hl (by decide)) (zwt hg (by decide)) _) rfl rfl (Nat.le_of_ble_eq_true rfl) ⟨(Nat.le_of_ble_eq_true rfl), (Nat.le_of_ble_eq_true rfl)⟩ ?_
  refine z_aloadn C rfl rfl ?_
  refine z_gets C rfl zS_0 rfl hw.1.1.1.2.2 ?_
  refine z_iloadn C rfl rfl ?_
  refine z_iloadn C rfl rfl ?_
  refine z_callv C rfl ⟨by decide, by decide⟩ zS_853 (c_becomeNumber (zKg_of C) zS_853 _) rfl rfl (Nat.le_of_ble_eq_true rfl) ⟨(Nat.le_of_ble_eq_true rfl), (Nat.le_of_ble_eq_true rfl)⟩ ?_
  have hw1 := zK_bNum (l := nI l) (x := x) hw zS_853
  refine z_aloadn C rfl rfl ?_
  refine z_gets C rfl zS_0 rfl hw1.1.1.1.2.1 ?_
  refine z_iloadn C rfl rfl ?_
  refine z_iloadn C rfl rfl ?_
  refine z_aloadn C rfl rfl ?_
  refine z_gets C rfl zS_0 rfl hw1.1.1.1.2.2 ?_
  refine z_callv C rfl ⟨by decide, by decide⟩ zS_2 (c_stG (zKg_of C) hl hg zS_853 _ hw1) rfl rfl (Nat.le_of_ble_eq_true rfl) ⟨(Nat.le_of_ble_eq_true rfl), (Nat.le_of_ble_eq_true rfl)⟩ ?_
  have hw2 := zK_set4 (x := x) hw hl hg
  refine z_aloadn C rfl rfl ?_
  refine z_gets C rfl zS_0 rfl hw2.1.1.1.2.1 ?_
  refine z_callv C rfl ⟨by decide, by decide⟩ zS_2 (c_settle (zKg_of C) _ hw2) rfl rfl (Nat.le_of_ble_eq_true rfl) ⟨(Nat.le_of_ble_eq_true rfl), (Nat.le_of_ble_eq_true rfl)⟩ ?_
  exact z_ireturn C rfl (by unfold zset at he; exact he) ⟨Nat.le_refl _, Nat.le_refl _⟩ rfl

