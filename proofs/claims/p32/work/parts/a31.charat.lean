/-! charAt of the second text -/
section JCH
variable {l : Launch} {A : Nat → Prop} {K V : Nat → Nat}
set_option maxHeartbeats 400000 in
set_option maxRecDepth 20000 in
theorem j_chk3 {j N : Nat} (hj : j < N) (hN : N < 2 ^ 31) {w : Value} (hw : w = .null ∨ ∃ t, w = .ref t) : jMet l yJ3_checkIndex_8e157 cJ3_checkIndex_8e157 3 (some .int) 0 A K V [.int (nI j), .int (nI N), w] (some (.int (nI j))) := by
  have hs : (lg_sl [.int (nI j), .int (nI N), w]).length ≤ 3 := by rcases hw with rfl | ⟨t, rfl⟩ <;> exact Nat.le_of_ble_eq_true rfl
  refine j_of _ (by decide) hs fun p e s m below meth c ls C hl => ?_
  obtain ⟨⟨hx, hb, hml, hown⟩, hts, hJ, hR, hret, hlocks⟩ := id C
  have hl : lv_has ls 3 [(0, .int (nI j)), (1, .int (nI N)), (2, w)] := by rcases hw with rfl | ⟨t, rfl⟩ <;> exact hl
  refine lv_iload_n (k := 0) hx hb (by decide +kernel) rfl (lv_at hl 0 rfl) ?_
  refine lv_if_lt (off := 8) (tgt := 9) hx hb (by decide +kernel) (by decide) (fun h => absurd h (nI_pos (by omega))) (fun _ => ?_)
  refine lv_iload_n (k := 0) hx hb (by decide +kernel) rfl (lv_at hl 0 rfl) ?_
  refine lv_iload_n (k := 1) hx hb (by decide +kernel) rfl (lv_at hl 1 rfl) ?_
  refine lv_icmp_lt (off := 10) (tgt := 16) hx hb (by decide +kernel) (by decide) (fun _ => ?_) (fun h => absurd (nI_lt hj hN) h)
  refine lv_iload_n (k := 0) hx hb (by decide +kernel) rfl (lv_at hl 0 rfl) ?_
  exact j_iret C rfl (by decide +kernel)
set_option maxHeartbeats 400000 in
set_option maxRecDepth 20000 in
theorem j_chk {j N : Nat} (hj : j < N) (hN : N < 2 ^ 31) : jMet l yJ0_checkIndex_df160 cJ0_checkIndex_df160 2 none 1 A K V [.int (nI j), .int (nI N)] none := by
  refine j_of _ (by decide) (Nat.le_of_ble_eq_true rfl) fun p e s m below meth c ls C hl => ?_
  obtain ⟨⟨hx, hb, hml, hown⟩, hts, hJ, hR, hret, hlocks⟩ := id C
  have hS : va_S A s.heap s.heap [] := va_S.rf
  have hl : lv_has ls 2 [(0, .int (nI j)), (1, .int (nI N))] := hl
  have go : ∀ w : Value, (w = .null ∨ ∃ t, w = .ref t) → va_Z "jdk/internal/util/Preconditions" "SIOOBE_FORMATTER" "Ljava/util/function/BiFunction;" w A s s.heap → W p l e (headSpec (jWs yJ0_checkIndex_df160 cJ0_checkIndex_df160 2 none) (jrm 1)).room s m _ below meth c s.heap [] 0 0 _ (F0 m 0 ls []) := fun w hw hZ => by
    refine lv_iload_n (k := 0) hx hb (by decide +kernel) rfl (lv_at hl 0 rfl) ?_
    refine lv_iload_n (k := 1) hx hb (by decide +kernel) rfl (lv_at hl 1 rfl) ?_
    refine va_gets hx hb hZ hS hown (hts _ (xgw_of jw4 rfl)) (fun _ h => h) (by decide +kernel) ?_
    refine j_callS C (j_chk3 hj hN hw) jwChk3 (by decide +kernel) ⟨by decide, by decide⟩ 3 ⟨by decide, by decide, by decide +kernel⟩ rfl rfl (Nat.le_of_ble_eq_true rfl) hl.1 ?_
    refine lv_pop hx hb (by decide +kernel) rfl ?_
    exact j_vret C rfl (by decide +kernel)
  rcases hJ.2.2 with hZ | ⟨t, hZ⟩
  · exact go _ (Or.inl rfl) hZ
  · exact go _ (Or.inr ⟨t, rfl⟩) hZ
def jchr (j : Nat) : Int32 := (((xbyt.getD 1 []).getD j 0 &&& 255).toUInt32 % 65536).toInt32
theorem jchr_c : ∀ j, j < 24 → vp_nar .char (jchr j) = jchr j := by decide
set_option maxHeartbeats 400000 in
set_option maxRecDepth 20000 in
theorem j_ch1 {j : Nat} (hj : j < 24) : jMet l yJ1_charAt_3b067 cJ1_charAt_3b067 2 (some .char) 2 A K V [.ref (V 1), .int (nI j)] (some (.int (jchr j))) := by
  refine j_of _ (by decide) (Nat.le_of_ble_eq_true rfl) fun p e s m below meth c ls C hl => ?_
  obtain ⟨⟨hx, hb, hml, hown⟩, hts, hJ, hR, hret, hlocks⟩ := id C
  have hS : va_S A s.heap s.heap [] := va_S.rf
  have hl : lv_has ls 2 [(0, .ref (V 1)), (1, .int (nI j))] := hl
  refine lv_iload_n (k := 1) hx hb (by decide +kernel) rfl (lv_at hl 1 rfl) ?_
  refine lv_aload_n (k := 0) hx hb (by decide +kernel) rfl (lv_at hl 0 rfl) ?_
  refine va_tlen hx hb (hJ.1.1 1 (by decide)).2.2.2 hS (v := nI 24) rfl (by decide +kernel) ?_
  refine j_callS C (j_chk hj (by decide)) jwChk (by decide +kernel) ⟨by decide, by decide⟩ 2 ⟨by decide, by decide, by decide +kernel⟩ rfl rfl (Nat.le_of_ble_eq_true rfl) hl.1 ?_
  refine lv_aload_n (k := 0) hx hb (by decide +kernel) rfl (lv_at hl 0 rfl) ?_
  refine lv_iload_n (k := 1) hx hb (by decide +kernel) rfl (lv_at hl 1 rfl) ?_
  refine va_tb hx hb (hJ.1.1 1 (by decide)).2.2.2 hS (vp_in_nI hj (by decide)) rfl (by decide +kernel) ?_
  rw [nI_clamp (by omega)]
  refine lv_sipush (n := 255) (v := 255) hx hb (by decide +kernel) (by decide) ?_
  refine lv_iand hx hb (by decide +kernel) ?_
  refine lv_i2c (v := jchr j) hx hb (by decide +kernel) rfl ?_
  have hn : narrow .char (.int (jchr j)) = .int (jchr j) := congrArg Value.int (jchr_c j hj)
  exact j_zret C rfl hn (by decide +kernel)
set_option maxHeartbeats 400000 in
set_option maxRecDepth 20000 in
theorem j_chS {j : Nat} (hj : j < 24) : jMet l yJ0_charAt_5068e cJ0_charAt_5068e 2 (some .char) 3 A K V [.ref (K 1), .int (nI j)] (some (.int (jchr j))) := by
  refine j_of _ (by decide) (Nat.le_of_ble_eq_true rfl) fun p e s m below meth c ls C hl => ?_
  obtain ⟨⟨hx, hb, hml, hown⟩, hts, hJ, hR, hret, hlocks⟩ := id C
  have hS : va_S A s.heap s.heap [] := va_S.rf
  have hl : lv_has ls 2 [(0, .ref (K 1)), (1, .int (nI j))] := hl
  refine lv_aload_n (k := 0) hx hb (by decide +kernel) rfl (lv_at hl 0 rfl) ?_
  refine j_callV C (i := 1) (by decide) (j_isL (by decide)) jwIsL (by decide +kernel) ⟨by decide, by decide⟩ 0 ⟨by decide, by decide, by decide +kernel⟩ rfl rfl (Nat.le_of_ble_eq_true rfl) hl.1 ?_
  refine lv_if_eq (off := 12) (tgt := 16) hx hb (by decide +kernel) (by decide) (fun h => absurd h (by decide)) (fun _ => ?_)
  refine lv_aload_n (k := 0) hx hb (by decide +kernel) rfl (lv_at hl 0 rfl) ?_
  refine vk_getf hx hb (hJ.1.1 1 (by decide)).2.2.1 hS hown (hts _ (xgw_of jw3 rfl)) (fun _ h => h) (by decide +kernel) ?_
  refine lv_iload_n (k := 1) hx hb (by decide +kernel) rfl (lv_at hl 1 rfl) ?_
  refine j_callS C (j_ch1 hj) jwChA (by decide +kernel) ⟨by decide, by decide⟩ 2 ⟨by decide, by decide, by decide +kernel⟩ rfl rfl (Nat.le_of_ble_eq_true rfl) hl.1 ?_
  have hn : narrow .char (.int (jchr j)) = .int (jchr j) := congrArg Value.int (jchr_c j hj)
  exact j_zret C rfl hn (by decide +kernel)
end JCH
