/-! THE JDK's OWN over the two texts: indexOf of the first, charAt of the second -/
def jWs (y : MethodName) (cc : ByteArray) (n : Nat) (r : Option FieldType) : List Cond := .code y cc n r :: xgw
theorem jgood {y : MethodName} {cc : ByteArray} {n : Nat} {r : Option FieldType} (h : Cond.code y cc n r ∈ xgw) : GoodIn xgw (jWs y cc n r) := fun w hw => by
  rcases List.mem_cons.mp hw with rfl | hw
  · exact ⟨h, good_of_word (xgood _ h)⟩
  · exact ⟨hw, good_of_word (xgood _ hw)⟩
def jW (A : Nat → Prop) (K V : Nat → Nat) (U : State) : Prop := vk_S 2 [22, 24] xbyt K V A U U.heap ∧ va_Z "java/lang/String" "COMPACT_STRINGS" "Z" (.int 1) A U U.heap ∧ va_Zq "jdk/internal/util/Preconditions" "SIOOBE_FORMATTER" "Ljava/util/function/BiFunction;" A U U.heap
theorem jW_of {A : Nat → Prop} {K V : Nat → Nat} {s U : State} (hW : s.WarmedH U.vm) (hq : ∀ a : Nat, ¬ A a → U.heap[a]? = s.heap[a]?) (h : jW A K V s) : jW A K V U :=
  ⟨(h.1.kept (fun a _ hA => hq a hA)).moved hW.alike, (h.2.1.kept (fun a _ hA => hq a hA)).moved hW.alike, (h.2.2.kept (fun a _ hA => hq a hA)).moved hW.alike⟩
def jrm (d : Nat) : Room := { frames := d, cells := 0, slots := 0, locals := 60 * d + 40 }
def jPc (A : Nat → Prop) (K V : Nat → Nat) (as : List Value) : Array Value → State → Prop := fun a U => a = as.toArray ∧ jW A K V U
def jQc (v : Option Value) : Array Value → State → Outcome → State → Prop := fun _ U o t => o = .returned v ∧ t.heap = U.heap
theorem jblind {A : Nat → Prop} {K V : Nat → Nat} {as : List Value} : FrameBlind (jPc A K V as) := fun _ U g mk q => ⟨q.1, jW_of (U := U.calling g mk _) (State.WarmedH.refl U) (fun _ _ => rfl) q.2⟩
def jMet (l : Launch) (y : MethodName) (cc : ByteArray) (n : Nat) (r : Option FieldType) (d : Nat) (A : Nat → Prop) (K V : Nat → Nat) (as : List Value) (v : Option Value) : Prop := vx_Met l y (jWs y cc n r) (jrm d) (jPc A K V as) (jQc v) zX0 0 0 (fun _ => False)
/-- what a frame of theirs has at hand -/
def jX (p : Program) (R : Room) (s : State) (m : MethodId) (args : Array Value) (meth : Method) (c : Code) (y : MethodName) (cc : ByteArray) (n : Nat) (r : Option FieldType) (d : Nat) (A : Nat → Prop) (K V : Nat → Nat) : Prop :=
  (p.tables.exec = Jvm.exec ∧ c.code = cc ∧ c.maxLocals = n ∧ s.vm.findClass y.cls = some m.cls) ∧ (∀ w ∈ xgw, w.before args s = true) ∧ jW A K V s ∧ (d ≤ R.frames ∧ 60 * d + 40 ≤ R.locals) ∧ meth.sig.returnType = r ∧ meth.locks = false
section JDK
variable {l : Launch} {y : MethodName} {cc : ByteArray} {n : Nat} {r : Option FieldType} {d : Nat} {A : Nat → Prop} {K V : Nat → Nat} {v : Option Value}
theorem j_of (as : List Value) (hy : plainName y.cls = true) (hlen : (lg_sl as).length ≤ n)
    (body : ∀ (p : Program) (e : Env) (s : State) (m : MethodId) (below : List Frame) (meth : Method) (c : Code) (ls : Array Slot), jX p (headSpec (jWs y cc n r) (jrm d)).room s m as.toArray meth c y cc n r d A K V → lv_has ls n (lv_args 0 as) →
      W p l e (headSpec (jWs y cc n r) (jrm d)).room s m as.toArray below meth c s.heap [] 0 0 (vx_MQ below (jQc v) zX0 as.toArray s 0 0 (fun _ => False)) (F0 m 0 ls [])) : jMet l y cc n r d A K V as v := by
  refine vx_ofW (cc := cc) (maxL := n) (ret := r) hy rfl fun p e s m args below meth c s₁ BL hml hnt hP => ?_
  obtain ⟨hav, hJ⟩ := hP
  subst hav
  have hws := atoms_spec (ws := jWs y cc n r) BL.pre
  have hL := lv_entry (n := n) as hlen
  rw [lg_entry_eq]
  exact body p e s m below meth c _ ⟨⟨BL.exec, BL.bytes, hml, findClass_of_methodNamed BL.named⟩, fun w hw => hws w (List.mem_cons_of_mem _ hw), hJ, ⟨Nat.le_refl _, Nat.le_refl _⟩, BL.returns, BL.notSynchronized⟩ hL
variable {p : Program} {e : Env} {R : Room} {s : State} {m : MethodId} {args : Array Value} {below : List Frame} {meth : Method} {c : Code} {Q : State → Prop} {pc : Nat} {ls : Array Slot} {st0 st : List Value}
theorem j_after {mc : Nat} {H : Heap} {locs : List Loc} {a b : Nat} {v' : Option Value} {av : Array Value} (hr : vx_Run p l e R s m args below meth c H locs a b 0 0 (F0 m pc ls st0) st (jQc v' av) zX0 (fun _ => False))
    (kk : W p l e R s m args below meth c H locs a b Q (F0 m (pc + 3) ls (v'.toList ++ st))) : W p l e R s m args below meth c H locs a b Q (F0 m pc ls st0) := by
  intro T hT X
  rcases hr T hT X with ⟨v1, st₀, t9, T', L, h0, X', hLL, e1, e2, ⟨q2, q3⟩, go⟩ | ⟨q, st₀, t9, T', L, E, ce, h0, X', hLL, e1, e2, hF, hce, hcv, hcl, go⟩
  · have hv : v1 = v' := by injection q2
    subst hv
    have hL0 : L = [] := List.eq_nil_iff_forall_not_mem.mpr (fun q hq => hLL q hq)
    subst hL0
    rw [List.append_nil] at X'
    obtain ⟨t2, a1, b1⟩ := kk T' (by rw [e1, q3, h0]) X'
    exact ⟨t2, go t2 a1, b1⟩
  · exact hF.elim
theorem jroom {d' n' : Nat} (hR : d ≤ R.frames ∧ 60 * d + 40 ≤ R.locals) (h : d' + 1 ≤ d ∧ n' ≤ 20) : (jrm d').frames + 1 ≤ R.frames ∧ 8 + (n' + 11) + (jrm d').locals ≤ R.locals := by
  show d' + 1 ≤ R.frames ∧ 8 + (n' + 11) + (60 * d' + 40) ≤ R.locals
  omega
theorem j_callS (C : jX p R s m args meth c y cc n r d A K V) {y' : MethodName} {cc' : ByteArray} {n' : Nat} {r' : Option FieldType} {d' idx : Nat} {as' : List Value} {v' : Option Value} (hM : jMet l y' cc' n' r' d' A K V as' v')
    (hw : Cond.code y' cc' n' r' ∈ lw_tbl ∧ Cond.static y' ∈ lw_tbl ∧ Cond.initialized y'.cls ∈ lw_tbl ∧ Cond.methodLink y.cls idx y' ∈ lw_tbl) (hd : decode cc pc = .ok (.invokestatic idx, 3)) (hd' : d' + 1 ≤ d ∧ n' ≤ 20)
    (k9 : Nat) (hp : y'.cls ≠ "java/lang/invoke/MethodHandle" ∧ y'.cls ≠ "java/lang/invoke/VarHandle" ∧ (parseMethodDescriptor y'.desc).map (fun d => d.parameters.length) = some k9) (hk9 : as'.length = k9) (hstk : st0 = as'.reverse ++ st) (hcat : (st.map fun v => v.category).sum ≤ 8) (hls : ls.size = n)
    (kk : W p l e R s m args below meth c s.heap [] 0 0 Q (F0 m (pc + 3) ls (v'.toList ++ st))) : W p l e R s m args below meth c s.heap [] 0 0 Q (F0 m pc ls st0) := by
  obtain ⟨⟨hx, hb, hml, hown⟩, hts, hJ, hR, -⟩ := C
  have S : CallFix p m c cc n s args xgw y.cls := ⟨hx, hb, hml, hown, hts⟩
  have h8 := lv_room (m := m) (pc := pc) (ls := ls) (rest := st0) (st := st) hcat
  exact j_after (mc := 0) (vx_runS (n := k9) S hM ⟨callB_of _ hts (jgood (xgw_of hw.1 rfl)) rfl rfl rfl (hts _ (xgw_of hw.2.2.1 rfl)) (hts _ (xgw_of hw.2.2.2 rfl)) hp (jroom hR hd'), hts _ (xgw_of hw.2.1 rfl)⟩ ⟨jblind, fun U hU hW => ⟨rfl, jW_of hW (fun a _ => by rw [hU]) hJ⟩⟩ rfl hk9 hls hstk h8 hd ⟨Nat.zero_le _, Nat.zero_le _⟩) kk
theorem j_callV (C : jX p R s m args meth c y cc n r d A K V) {y' : MethodName} {cc' : ByteArray} {n' : Nat} {r' : Option FieldType} {d' idx i : Nat} (hi : i < 2) {as' : List Value} {v' : Option Value} (hM : jMet l y' cc' n' r' d' A K V (.ref (K i) :: as') v')
    (hw : Cond.code y' cc' n' r' ∈ lw_tbl ∧ Cond.instanceMethod y' ∈ lw_tbl ∧ Cond.initialized y'.cls ∈ lw_tbl ∧ Cond.methodLink y.cls idx y' ∈ lw_tbl ∧ Cond.selects "java/lang/String" y' y' ∈ lw_tbl) (hd : decode cc pc = .ok (.invokevirtual idx, 3)) (hd' : d' + 1 ≤ d ∧ n' ≤ 20)
    (k9 : Nat) (hp : y'.cls ≠ "java/lang/invoke/MethodHandle" ∧ y'.cls ≠ "java/lang/invoke/VarHandle" ∧ (parseMethodDescriptor y'.desc).map (fun d => d.parameters.length) = some k9) (hk9 : as'.length = k9) (hstk : st0 = as'.reverse ++ .ref (K i) :: st) (hcat : (st.map fun v => v.category).sum ≤ 8) (hls : ls.size = n)
    (kk : W p l e R s m args below meth c s.heap [] 0 0 Q (F0 m (pc + 3) ls (v'.toList ++ st))) : W p l e R s m args below meth c s.heap [] 0 0 Q (F0 m pc ls st0) := by
  obtain ⟨⟨hx, hb, hml, hown⟩, hts, hJ, hR, -⟩ := C
  have S : CallFix p m c cc n s args xgw y.cls := ⟨hx, hb, hml, hown, hts⟩
  have h8 := lv_room (m := m) (pc := pc) (ls := ls) (rest := st0) (st := st) hcat
  have hrecv := vk_recv hJ.1 hi (va_S.rf (A := A) (H0 := s.heap))
  exact j_after (mc := 0) (vx_runV (C := "java/lang/String") (n := k9) S hM ⟨callB_of _ hts (jgood (xgw_of hw.1 rfl)) rfl rfl rfl (hts _ (xgw_of hw.2.2.1 rfl)) (hts _ (xgw_of hw.2.2.2.1 rfl)) hp (jroom hR hd'), hts _ (xgw_of hw.2.1 rfl), hts _ (xgw_of hw.2.2.2.2 rfl)⟩ ⟨jblind, hrecv, fun U hU hW => ⟨rfl, jW_of hW (fun a _ => by rw [hU]) hJ⟩⟩ rfl hk9 hls hstk h8 hd ⟨Nat.zero_le _, Nat.zero_le _⟩) kk
theorem j_iret (C : jX p R s m args meth c y cc n r d A K V) {x : Int32} (hr : r = some .int) (hd : decode cc pc = .ok (.ireturn, 1)) : W p l e R s m args below meth c s.heap [] 0 0 (vx_MQ below (jQc (some (.int x))) zX0 args s 0 0 (fun _ => False)) (F0 m pc ls [.int x]) := by
  obtain ⟨⟨hx, hb, hml, hown⟩, hts, hJ, hR, hret, hlocks⟩ := C
  exact vx_ret (W.iret hx hb (hret.trans hr) (fun u hu _ => ⟨rfl, hu⟩) (fun q hq => absurd hq List.not_mem_nil) hd hlocks)
theorem j_zret (C : jX p R s m args meth c y cc n r d A K V) {x : Int32} {F : FieldType} (hr : r = some F) (hn : narrow F (.int x) = .int x) (hd : decode cc pc = .ok (.ireturn, 1)) : W p l e R s m args below meth c s.heap [] 0 0 (vx_MQ below (jQc (some (.int x))) zX0 args s 0 0 (fun _ => False)) (F0 m pc ls [.int x]) := by
  obtain ⟨⟨hx, hb, hml, hown⟩, hts, hJ, hR, hret, hlocks⟩ := C
  exact vx_ret (W.zret hx hb (hret.trans hr) hn (fun u hu _ => ⟨rfl, hu⟩) (fun q hq => absurd hq List.not_mem_nil) hd hlocks)
theorem j_vret (C : jX p R s m args meth c y cc n r d A K V) (hr : r = none) (hd : decode cc pc = .ok (.return_, 1)) : W p l e R s m args below meth c s.heap [] 0 0 (vx_MQ below (jQc none) zX0 args s 0 0 (fun _ => False)) (F0 m pc ls []) := by
  obtain ⟨⟨hx, hb, hml, hown⟩, hts, hJ, hR, hret, hlocks⟩ := C
  exact vx_ret (W.vret hx hb (hret.trans hr) (fun u hu _ => ⟨rfl, hu⟩) (fun q hq => absurd hq List.not_mem_nil) hd hlocks)
end JDK
section JDK2
variable {l : Launch} {A : Nat → Prop} {K V : Nat → Nat} {i : Nat}
set_option maxHeartbeats 4000000 in
set_option maxRecDepth 100000 in
theorem jw1 : Cond.fieldLink RJ0 38 "java/lang/String" "COMPACT_STRINGS" "Z" ∈ lw_tbl := by decide +kernel
set_option maxHeartbeats 4000000 in
set_option maxRecDepth 100000 in
theorem jw2 : Cond.fieldLink RJ0 15 "java/lang/String" "coder" "B" ∈ lw_tbl := by decide +kernel
set_option maxHeartbeats 4000000 in
set_option maxRecDepth 100000 in
theorem jw3 : Cond.fieldLink RJ0 9 "java/lang/String" "value" "[B" ∈ lw_tbl := by decide +kernel
set_option maxHeartbeats 4000000 in
set_option maxRecDepth 100000 in
theorem jw4 : Cond.fieldLink RJ0 1053 "jdk/internal/util/Preconditions" "SIOOBE_FORMATTER" "Ljava/util/function/BiFunction;" ∈ lw_tbl := by decide +kernel
set_option maxHeartbeats 4000000 in
set_option maxRecDepth 100000 in
theorem jw5 : Cond.initialized "java/lang/Math" ∈ lw_tbl := by decide +kernel
set_option maxHeartbeats 4000000 in
set_option maxRecDepth 100000 in
theorem jw6 : Cond.static Lib.Math.max.name ∈ lw_tbl := by decide +kernel
set_option maxHeartbeats 4000000 in
set_option maxRecDepth 100000 in
theorem jw7 : Cond.static Lib.Math.min.name ∈ lw_tbl := by decide +kernel
set_option maxHeartbeats 4000000 in
set_option maxRecDepth 100000 in
theorem jw8 : Cond.code Lib.Math.max.name Lib.Math.max.code 2 (some .int) ∈ lw_tbl := by decide +kernel
set_option maxHeartbeats 4000000 in
set_option maxRecDepth 100000 in
theorem jw9 : Cond.code Lib.Math.min.name Lib.Math.min.code 2 (some .int) ∈ lw_tbl := by decide +kernel
set_option maxHeartbeats 4000000 in
set_option maxRecDepth 100000 in
theorem jw10 : Cond.methodLink RJ1 92 Lib.Math.max.name ∈ lw_tbl := by decide +kernel
set_option maxHeartbeats 4000000 in
set_option maxRecDepth 100000 in
theorem jw11 : Cond.methodLink RJ1 38 Lib.Math.min.name ∈ lw_tbl := by decide +kernel
set_option maxHeartbeats 4000000 in
set_option maxRecDepth 100000 in
theorem jwIsL : Cond.code yJ0_isLatin1_aae02 cJ0_isLatin1_aae02 1 (some .boolean) ∈ lw_tbl ∧ Cond.instanceMethod yJ0_isLatin1_aae02 ∈ lw_tbl ∧ Cond.initialized (yJ0_isLatin1_aae02).cls ∈ lw_tbl ∧ Cond.methodLink RJ0 492 yJ0_isLatin1_aae02 ∈ lw_tbl ∧ Cond.selects "java/lang/String" yJ0_isLatin1_aae02 yJ0_isLatin1_aae02 ∈ lw_tbl := ⟨by decide +kernel, by decide +kernel, by decide +kernel, by decide +kernel, by decide +kernel⟩
set_option maxHeartbeats 4000000 in
set_option maxRecDepth 100000 in
theorem jwCod : Cond.code yJ0_coder_7d493 cJ0_coder_7d493 1 (some .byte) ∈ lw_tbl ∧ Cond.instanceMethod yJ0_coder_7d493 ∈ lw_tbl ∧ Cond.initialized (yJ0_coder_7d493).cls ∈ lw_tbl ∧ Cond.methodLink RJ0 335 yJ0_coder_7d493 ∈ lw_tbl ∧ Cond.selects "java/lang/String" yJ0_coder_7d493 yJ0_coder_7d493 ∈ lw_tbl := ⟨by decide +kernel, by decide +kernel, by decide +kernel, by decide +kernel, by decide +kernel⟩
set_option maxHeartbeats 4000000 in
set_option maxRecDepth 100000 in
theorem jwLen : Cond.code yJ0_length_8abf5 cJ0_length_8abf5 1 (some .int) ∈ lw_tbl ∧ Cond.instanceMethod yJ0_length_8abf5 ∈ lw_tbl ∧ Cond.initialized (yJ0_length_8abf5).cls ∈ lw_tbl ∧ Cond.methodLink RJ0 505 yJ0_length_8abf5 ∈ lw_tbl ∧ Cond.selects "java/lang/String" yJ0_length_8abf5 yJ0_length_8abf5 ∈ lw_tbl := ⟨by decide +kernel, by decide +kernel, by decide +kernel, by decide +kernel, by decide +kernel⟩
set_option maxHeartbeats 4000000 in
set_option maxRecDepth 100000 in
theorem jwIx2 : Cond.code yJ0_indexOf_7cf53 cJ0_indexOf_7cf53 3 (some .int) ∈ lw_tbl ∧ Cond.instanceMethod yJ0_indexOf_7cf53 ∈ lw_tbl ∧ Cond.initialized (yJ0_indexOf_7cf53).cls ∈ lw_tbl ∧ Cond.methodLink RJ0 633 yJ0_indexOf_7cf53 ∈ lw_tbl ∧ Cond.selects "java/lang/String" yJ0_indexOf_7cf53 yJ0_indexOf_7cf53 ∈ lw_tbl := ⟨by decide +kernel, by decide +kernel, by decide +kernel, by decide +kernel, by decide +kernel⟩
set_option maxHeartbeats 4000000 in
set_option maxRecDepth 100000 in
theorem jwL1 : Cond.code yJ1_indexOf_4cfef cJ1_indexOf_4cfef 4 (some .int) ∈ lw_tbl ∧ Cond.static yJ1_indexOf_4cfef ∈ lw_tbl ∧ Cond.initialized (yJ1_indexOf_4cfef).cls ∈ lw_tbl ∧ Cond.methodLink RJ0 637 yJ1_indexOf_4cfef ∈ lw_tbl := ⟨by decide +kernel, by decide +kernel, by decide +kernel, by decide +kernel⟩
set_option maxHeartbeats 4000000 in
set_option maxRecDepth 100000 in
theorem jwCan : Cond.code yJ1_canEncode_9a6ad cJ1_canEncode_9a6ad 1 (some .boolean) ∈ lw_tbl ∧ Cond.static yJ1_canEncode_9a6ad ∈ lw_tbl ∧ Cond.initialized (yJ1_canEncode_9a6ad).cls ∈ lw_tbl ∧ Cond.methodLink RJ1 88 yJ1_canEncode_9a6ad ∈ lw_tbl := ⟨by decide +kernel, by decide +kernel, by decide +kernel, by decide +kernel⟩
set_option maxHeartbeats 4000000 in
set_option maxRecDepth 100000 in
theorem jwIxC : Cond.code yJ1_indexOfChar_4cfef cJ1_indexOfChar_4cfef 6 (some .int) ∈ lw_tbl ∧ Cond.static yJ1_indexOfChar_4cfef ∈ lw_tbl ∧ Cond.initialized (yJ1_indexOfChar_4cfef).cls ∈ lw_tbl ∧ Cond.methodLink RJ1 95 yJ1_indexOfChar_4cfef ∈ lw_tbl := ⟨by decide +kernel, by decide +kernel, by decide +kernel, by decide +kernel⟩
set_option maxHeartbeats 4000000 in
set_option maxRecDepth 100000 in
theorem jwChA : Cond.code yJ1_charAt_3b067 cJ1_charAt_3b067 2 (some .char) ∈ lw_tbl ∧ Cond.static yJ1_charAt_3b067 ∈ lw_tbl ∧ Cond.initialized (yJ1_charAt_3b067).cls ∈ lw_tbl ∧ Cond.methodLink RJ0 495 yJ1_charAt_3b067 ∈ lw_tbl := ⟨by decide +kernel, by decide +kernel, by decide +kernel, by decide +kernel⟩
set_option maxHeartbeats 4000000 in
set_option maxRecDepth 100000 in
theorem jwChk : Cond.code yJ0_checkIndex_df160 cJ0_checkIndex_df160 2 none ∈ lw_tbl ∧ Cond.static yJ0_checkIndex_df160 ∈ lw_tbl ∧ Cond.initialized (yJ0_checkIndex_df160).cls ∈ lw_tbl ∧ Cond.methodLink RJ1 9 yJ0_checkIndex_df160 ∈ lw_tbl := ⟨by decide +kernel, by decide +kernel, by decide +kernel, by decide +kernel⟩
set_option maxHeartbeats 4000000 in
set_option maxRecDepth 100000 in
theorem jwChk3 : Cond.code yJ3_checkIndex_8e157 cJ3_checkIndex_8e157 3 (some .int) ∈ lw_tbl ∧ Cond.static yJ3_checkIndex_8e157 ∈ lw_tbl ∧ Cond.initialized (yJ3_checkIndex_8e157).cls ∈ lw_tbl ∧ Cond.methodLink RJ0 1059 yJ3_checkIndex_8e157 ∈ lw_tbl := ⟨by decide +kernel, by decide +kernel, by decide +kernel, by decide +kernel⟩
set_option maxHeartbeats 400000 in
set_option maxRecDepth 20000 in
theorem j_isL (hi : i < 2) : jMet l yJ0_isLatin1_aae02 cJ0_isLatin1_aae02 1 (some .boolean) 0 A K V [.ref (K i)] (some (.int 1)) := by
  refine j_of _ (by decide) (Nat.le_of_ble_eq_true rfl) fun p e s m below meth c ls C hl => ?_
  obtain ⟨⟨hx, hb, hml, hown⟩, hts, hJ, hR, hret, hlocks⟩ := id C
  have hS : va_S A s.heap s.heap [] := va_S.rf
  have hl : lv_has ls 1 [(0, .ref (K i))] := hl
  refine va_gets hx hb hJ.2.1 hS hown (hts _ (xgw_of jw1 rfl)) (fun _ h => h) (by decide +kernel) ?_
  refine lv_if_eq (off := 14) (tgt := 17) hx hb (by decide +kernel) (by decide) (fun h => absurd h (by decide)) (fun _ => ?_)
  refine lv_aload_n (k := 0) hx hb (by decide +kernel) rfl (lv_at hl 0 rfl) ?_
  refine vk_getf hx hb (hJ.1.1 i hi).2.1 hS hown (hts _ (xgw_of jw2 rfl)) (fun _ h => h) (by decide +kernel) ?_
  refine lv_if_ne (off := 7) (tgt := 17) hx hb (by decide +kernel) (by decide) (fun h => absurd rfl h) (fun _ => ?_)
  refine lv_iconst (n := 1) (v := 1) hx hb (by decide +kernel) (by decide) ?_
  refine lv_goto (off := 4) (tgt := 18) hx hb (by decide +kernel) (by decide) ?_
  exact j_zret C rfl rfl (by decide +kernel)
set_option maxHeartbeats 400000 in
set_option maxRecDepth 20000 in
theorem j_cod (hi : i < 2) : jMet l yJ0_coder_7d493 cJ0_coder_7d493 1 (some .byte) 0 A K V [.ref (K i)] (some (.int 0)) := by
  refine j_of _ (by decide) (Nat.le_of_ble_eq_true rfl) fun p e s m below meth c ls C hl => ?_
  obtain ⟨⟨hx, hb, hml, hown⟩, hts, hJ, hR, hret, hlocks⟩ := id C
  have hS : va_S A s.heap s.heap [] := va_S.rf
  have hl : lv_has ls 1 [(0, .ref (K i))] := hl
  refine va_gets hx hb hJ.2.1 hS hown (hts _ (xgw_of jw1 rfl)) (fun _ h => h) (by decide +kernel) ?_
  refine lv_if_eq (off := 10) (tgt := 13) hx hb (by decide +kernel) (by decide) (fun h => absurd h (by decide)) (fun _ => ?_)
  refine lv_aload_n (k := 0) hx hb (by decide +kernel) rfl (lv_at hl 0 rfl) ?_
  refine vk_getf hx hb (hJ.1.1 i hi).2.1 hS hown (hts _ (xgw_of jw2 rfl)) (fun _ h => h) (by decide +kernel) ?_
  refine lv_goto (off := 4) (tgt := 14) hx hb (by decide +kernel) (by decide) ?_
  exact j_zret C rfl rfl (by decide +kernel)
set_option maxHeartbeats 400000 in
set_option maxRecDepth 20000 in
theorem j_len (hi : i < 2) : jMet l yJ0_length_8abf5 cJ0_length_8abf5 1 (some .int) 1 A K V [.ref (K i)] (some (.int (Int32.ofNat (([22, 24] : List Nat).getD i 0) >>> ((0 : Int32) &&& 31)))) := by
  refine j_of _ (by decide) (Nat.le_of_ble_eq_true rfl) fun p e s m below meth c ls C hl => ?_
  obtain ⟨⟨hx, hb, hml, hown⟩, hts, hJ, hR, hret, hlocks⟩ := id C
  have hS : va_S A s.heap s.heap [] := va_S.rf
  have hl : lv_has ls 1 [(0, .ref (K i))] := hl
  refine lv_aload_n (k := 0) hx hb (by decide +kernel) rfl (lv_at hl 0 rfl) ?_
  refine vk_getf hx hb (hJ.1.1 i hi).2.2.1 hS hown (hts _ (xgw_of jw3 rfl)) (fun _ h => h) (by decide +kernel) ?_
  refine va_tlen hx hb (hJ.1.1 i hi).2.2.2 hS rfl (by decide +kernel) ?_
  refine lv_aload_n (k := 0) hx hb (by decide +kernel) rfl (lv_at hl 0 rfl) ?_
  refine j_callV C hi (j_cod hi) jwCod (by decide +kernel) ⟨by decide, by decide⟩ 0 ⟨by decide, by decide, by decide +kernel⟩ rfl rfl (Nat.le_of_ble_eq_true rfl) hl.1 ?_
  refine lv_ishr hx hb (by decide +kernel) ?_
  exact j_iret C rfl (by decide +kernel)
def jcan (x : Int32) : Int32 := if x < 0 then 0 else if 255 < x then 0 else 1
set_option maxHeartbeats 400000 in
set_option maxRecDepth 20000 in
theorem j_can {x : Int32} : jMet l yJ1_canEncode_9a6ad cJ1_canEncode_9a6ad 1 (some .boolean) 0 A K V [.int x] (some (.int (jcan x))) := by
  refine j_of _ (by decide) (Nat.le_of_ble_eq_true rfl) fun p e s m below meth c ls C hl => ?_
  obtain ⟨⟨hx, hb, hml, hown⟩, hts, hJ, hR, hret, hlocks⟩ := id C
  have hS : va_S A s.heap s.heap [] := va_S.rf
  have hl : lv_has ls 1 [(0, .int x)] := hl
  unfold jcan
  refine lv_iload_n (k := 0) hx hb (by decide +kernel) rfl (lv_at hl 0 rfl) ?_
  refine lv_if_lt (off := 14) (tgt := 15) hx hb (by decide +kernel) (by decide) (fun h => ?_) (fun h => ?_)
  · rw [if_pos h]
    refine lv_iconst (n := 0) (v := 0) hx hb (by decide +kernel) (by decide) ?_
    exact j_zret C rfl rfl (by decide +kernel)
  · rw [if_neg h]
    refine lv_iload_n (k := 0) hx hb (by decide +kernel) rfl (lv_at hl 0 rfl) ?_
    refine lv_sipush (n := 255) (v := 255) hx hb (by decide +kernel) (by decide) ?_
    refine lv_icmp_gt (off := 7) (tgt := 15) hx hb (by decide +kernel) (by decide) (fun h2 => ?_) (fun h2 => ?_)
    · rw [if_pos h2]
      refine lv_iconst (n := 0) (v := 0) hx hb (by decide +kernel) (by decide) ?_
      exact j_zret C rfl rfl (by decide +kernel)
    · rw [if_neg h2]
      refine lv_iconst (n := 1) (v := 1) hx hb (by decide +kernel) (by decide) ?_
      refine lv_goto (off := 4) (tgt := 16) hx hb (by decide +kernel) (by decide) ?_
      exact j_zret C rfl rfl (by decide +kernel)
def jF (f : Nat → Int32) (x : Int32) (n : Nat) : Nat → Nat → Int32
  | 0, _ => -1
  | m + 1, k => if f k = x then nI k else jF f x n m (k + 1)
set_option maxHeartbeats 400000 in
set_option maxRecDepth 20000 in
theorem j_ixLoop {p : Program} {e : Env} {R : Room} {s : State} {m : MethodId} {args : Array Value} {below : List Frame} {meth : Method} {c : Code} (C : jX p R s m args meth c yJ1_indexOfChar_4cfef cJ1_indexOfChar_4cfef 6 (some .int) 0 A K V) (hi : i < 2) {x : Int32} {v : Option Value}
    (hv : v = some (.int (jF (fun j => (xbyt.getD i []).getD j 0) x (([22, 24] : List Nat).getD i 0) (([22, 24] : List Nat).getD i 0) 0))) : ∀ (k j : Nat) (ls : Array Slot), j + k = (([22, 24] : List Nat).getD i 0) → v = some (.int (jF (fun j => (xbyt.getD i []).getD j 0) x (([22, 24] : List Nat).getD i 0) k j)) → lv_has ls 6 [(5, .int (nI j)), (4, .int x), (3, .int (nI (([22, 24] : List Nat).getD i 0))), (0, .ref (V i))] →
    W p l e R s m args below meth c s.heap [] 0 0 (vx_MQ below (jQc v) zX0 args s 0 0 (fun _ => False)) (F0 m 7 ls []) := by
  obtain ⟨⟨hx, hb, hml, hown⟩, hts, hJ, hR, hret, hlocks⟩ := id C
  have hS : va_S A s.heap s.heap [] := va_S.rf
  have hN : (([22, 24] : List Nat).getD i 0) ≤ 24 := by rcases (by omega : i = 0 ∨ i = 1) with rfl | rfl <;> decide
  intro k
  induction k with
  | zero =>
    intro j ls hj hv2 hl
    refine lv_iload (i := 5) hx hb (by decide +kernel) (lv_at hl 0 rfl) ?_
    refine lv_iload_n (k := 3) hx hb (by decide +kernel) rfl (lv_at hl 2 rfl) ?_
    refine lv_icmp_ge (off := 21) (tgt := 31) hx hb (by decide +kernel) (by decide) (fun h => ?_) (fun h => absurd (nI_le (by omega) (by omega)) h)
    refine lv_iconst (n := -1) (v := -1) hx hb (by decide +kernel) (by decide) ?_
    subst hv2
    exact j_iret C rfl (by decide +kernel)
  | succ k ih =>
    intro j ls hj hv2 hl
    refine lv_iload (i := 5) hx hb (by decide +kernel) (lv_at hl 0 rfl) ?_
    refine lv_iload_n (k := 3) hx hb (by decide +kernel) rfl (lv_at hl 2 rfl) ?_
    refine lv_icmp_ge (off := 21) (tgt := 31) hx hb (by decide +kernel) (by decide) (fun h => absurd h (nI_ge (by omega) (by omega))) (fun h => ?_)
    refine lv_aload_n (k := 0) hx hb (by decide +kernel) rfl (lv_at hl 3 rfl) ?_
    refine lv_iload (i := 5) hx hb (by decide +kernel) (lv_at hl 0 rfl) ?_
    refine va_tb hx hb (hJ.1.1 i hi).2.2.2 hS (vp_in_nI (by omega) (by omega)) rfl (by decide +kernel) ?_
    rw [nI_clamp (by omega)]
    refine lv_iload (i := 4) hx hb (by decide +kernel) (lv_at hl 1 rfl) ?_
    refine lv_icmp_ne (off := 6) (tgt := 25) hx hb (by decide +kernel) (by decide) (fun h2 => ?_) (fun h2 => ?_)
    · refine lv_iinc (i := 5) (n := 1) (k := 0) (v := nI (j + 1)) (lv' := [(5, .int (nI (j + 1))), (4, .int x), (3, .int (nI (([22, 24] : List Nat).getD i 0))), (0, .ref (V i))]) hx hb (by decide +kernel) hl rfl (nI_1 j) (by decide) rfl (fun ls hl => ?_)
      refine lv_goto (off := -21) (tgt := 7) hx hb (by decide +kernel) (by decide) ?_
      refine ih (j + 1) ls (by omega) (hv2.trans ?_) hl
      unfold jF
      rw [if_neg h2]
      cases k <;> rfl
    · refine lv_iload (i := 5) hx hb (by decide +kernel) (lv_at hl 0 rfl) ?_
      have e2 : v = some (.int (nI j)) := hv2.trans (by unfold jF; rw [if_pos h2])
      subst e2
      exact j_iret C rfl (by decide +kernel)
set_option maxHeartbeats 400000 in
set_option maxRecDepth 20000 in
theorem j_ixC {x : Int32} (hi : i < 2) : jMet l yJ1_indexOfChar_4cfef cJ1_indexOfChar_4cfef 6 (some .int) 0 A K V [.ref (V i), .int x, .int 0, .int (nI (([22, 24] : List Nat).getD i 0))] (some (.int (jF (fun j => (xbyt.getD i []).getD j 0) x.toInt8.toInt32 (([22, 24] : List Nat).getD i 0) (([22, 24] : List Nat).getD i 0) 0))) := by
  refine j_of _ (by decide) (Nat.le_of_ble_eq_true rfl) fun p e s m below meth c ls C hl => ?_
  obtain ⟨⟨hx, hb, hml, hown⟩, hts, hJ, hR, hret, hlocks⟩ := id C
  have hS : va_S A s.heap s.heap [] := va_S.rf
  have hl : lv_has ls 6 [(0, .ref (V i)), (1, .int x), (2, .int 0), (3, .int (nI (([22, 24] : List Nat).getD i 0)))] := hl
  refine lv_iload_n (k := 1) hx hb (by decide +kernel) rfl (lv_at hl 1 rfl) ?_
  refine lv_i2b hx hb (by decide +kernel) rfl ?_
  refine lv_istore (i := 4) (lv' := [(4, .int x.toInt8.toInt32), (0, .ref (V i)), (1, .int x), (2, .int 0), (3, .int (nI (([22, 24] : List Nat).getD i 0)))]) hx hb (by decide +kernel) hl (by decide) rfl (fun ls hl => ?_)
  refine lv_iload_n (k := 2) hx hb (by decide +kernel) rfl (lv_at hl 3 rfl) ?_
  refine lv_istore (i := 5) (lv' := [(5, .int 0), (4, .int x.toInt8.toInt32), (0, .ref (V i)), (1, .int x), (2, .int 0), (3, .int (nI (([22, 24] : List Nat).getD i 0)))]) hx hb (by decide +kernel) hl (by decide) rfl (fun ls hl => ?_)
  exact j_ixLoop C hi rfl _ 0 ls (Nat.zero_add _) rfl (lv_sub hl [0, 1, 5, 2] rfl)
def jix (i : Nat) (x : Int32) : Int32 := if jcan x = 0 then -1 else jF (fun j => (xbyt.getD i []).getD j 0) x.toInt8.toInt32 (([22, 24] : List Nat).getD i 0) (([22, 24] : List Nat).getD i 0) 0
set_option maxHeartbeats 400000 in
set_option maxRecDepth 20000 in
theorem j_L1 {x : Int32} (hi : i < 2) : jMet l yJ1_indexOf_4cfef cJ1_indexOf_4cfef 4 (some .int) 2 A K V [.ref (V i), .int x, .int 0, .int (nI (([22, 24] : List Nat).getD i 0))] (some (.int (jix i x))) := by
  refine j_of _ (by decide) (Nat.le_of_ble_eq_true rfl) fun p e s m below meth c ls C hl => ?_
  obtain ⟨⟨hx, hb, hml, hown⟩, hts, hJ, hR, hret, hlocks⟩ := id C
  have hS : va_S A s.heap s.heap [] := va_S.rf
  have hl : lv_has ls 4 [(0, .ref (V i)), (1, .int x), (2, .int 0), (3, .int (nI (([22, 24] : List Nat).getD i 0)))] := hl
  have hN : 1 ≤ (([22, 24] : List Nat).getD i 0) ∧ (([22, 24] : List Nat).getD i 0) ≤ 24 := by rcases (by omega : i = 0 ∨ i = 1) with rfl | rfl <;> decide
  unfold jix
  refine lv_iload_n (k := 1) hx hb (by decide +kernel) rfl (lv_at hl 1 rfl) ?_
  refine j_callS C j_can jwCan (by decide +kernel) ⟨by decide, by decide⟩ 1 ⟨by decide, by decide, by decide +kernel⟩ rfl rfl (Nat.le_of_ble_eq_true rfl) hl.1 ?_
  refine lv_if_ne (off := 5) (tgt := 9) hx hb (by decide +kernel) (by decide) (fun h => ?_) (fun h => ?_)
  · rw [if_neg h]
    refine lv_iload_n (k := 2) hx hb (by decide +kernel) rfl (lv_at hl 2 rfl) ?_
    refine lv_iconst (n := 0) (v := 0) hx hb (by decide +kernel) (by decide) ?_
    refine va_mmax (own := RJ1) hx hb (hml.trans hl.1.symm) hown (hts _ (xgw_of jw10 rfl)) (hts _ (xgw_of jw6 rfl)) (hts _ (xgw_of jw5 rfl)) (hts _ (xgw_of jw8 rfl)) (by omega) (Nat.le_trans (Nat.le_of_ble_eq_true rfl) hR.2) (Nat.zero_le _) (Nat.zero_le _) (by decide +kernel) ?_
    rw [if_neg (by decide)]
    refine lv_istore_n (k := 2) (lv' := [(2, .int 0), (0, .ref (V i)), (1, .int x), (3, .int (nI (([22, 24] : List Nat).getD i 0)))]) hx hb (by decide +kernel) rfl hl (by decide) rfl (fun ls hl => ?_)
    refine lv_iload_n (k := 3) hx hb (by decide +kernel) rfl (lv_at hl 3 rfl) ?_
    refine lv_aload_n (k := 0) hx hb (by decide +kernel) rfl (lv_at hl 1 rfl) ?_
    refine va_tlen hx hb (hJ.1.1 i hi).2.2.2 hS (v := nI (([22, 24] : List Nat).getD i 0)) rfl (by decide +kernel) ?_
    refine va_mmin (own := RJ1) hx hb (hml.trans hl.1.symm) hown (hts _ (xgw_of jw11 rfl)) (hts _ (xgw_of jw7 rfl)) (hts _ (xgw_of jw5 rfl)) (hts _ (xgw_of jw9 rfl)) (by omega) (Nat.le_trans (Nat.le_of_ble_eq_true rfl) hR.2) (Nat.zero_le _) (Nat.zero_le _) (by decide +kernel) ?_
    rw [ite_self]
    refine lv_istore_n (k := 3) (lv' := [(3, .int (nI (([22, 24] : List Nat).getD i 0))), (2, .int 0), (0, .ref (V i)), (1, .int x)]) hx hb (by decide +kernel) rfl hl (by decide) rfl (fun ls hl => ?_)
    refine lv_iload_n (k := 2) hx hb (by decide +kernel) rfl (lv_at hl 1 rfl) ?_
    refine lv_iload_n (k := 3) hx hb (by decide +kernel) rfl (lv_at hl 0 rfl) ?_
    refine lv_icmp_lt (off := 5) (tgt := 29) hx hb (by decide +kernel) (by decide) (fun h2 => ?_) (fun h2 => absurd (nI_lt (a := 0) (by omega) (by omega)) h2)
    refine lv_aload_n (k := 0) hx hb (by decide +kernel) rfl (lv_at hl 2 rfl) ?_
    refine lv_iload_n (k := 1) hx hb (by decide +kernel) rfl (lv_at hl 3 rfl) ?_
    refine lv_iload_n (k := 2) hx hb (by decide +kernel) rfl (lv_at hl 1 rfl) ?_
    refine lv_iload_n (k := 3) hx hb (by decide +kernel) rfl (lv_at hl 0 rfl) ?_
    refine j_callS C (j_ixC hi) jwIxC (by decide +kernel) ⟨by decide, by decide⟩ 4 ⟨by decide, by decide, by decide +kernel⟩ rfl rfl (Nat.le_of_ble_eq_true rfl) hl.1 ?_
    exact j_iret C rfl (by decide +kernel)
  · rw [if_pos h]
    refine lv_iconst (n := -1) (v := -1) hx hb (by decide +kernel) (by decide) ?_
    exact j_iret C rfl (by decide +kernel)
set_option maxHeartbeats 400000 in
set_option maxRecDepth 20000 in
theorem j_ix2 {x : Int32} (hi : i < 2) : jMet l yJ0_indexOf_7cf53 cJ0_indexOf_7cf53 3 (some .int) 3 A K V [.ref (K i), .int x, .int 0] (some (.int (jix i x))) := by
  refine j_of _ (by decide) (Nat.le_of_ble_eq_true rfl) fun p e s m below meth c ls C hl => ?_
  obtain ⟨⟨hx, hb, hml, hown⟩, hts, hJ, hR, hret, hlocks⟩ := id C
  have hS : va_S A s.heap s.heap [] := va_S.rf
  have hl : lv_has ls 3 [(0, .ref (K i)), (1, .int x), (2, .int 0)] := hl
  have hN : Int32.ofNat (([22, 24] : List Nat).getD i 0) >>> ((0 : Int32) &&& 31) = nI (([22, 24] : List Nat).getD i 0) := by rcases (by omega : i = 0 ∨ i = 1) with rfl | rfl <;> decide
  refine lv_aload_n (k := 0) hx hb (by decide +kernel) rfl (lv_at hl 0 rfl) ?_
  refine j_callV C hi (j_isL hi) jwIsL (by decide +kernel) ⟨by decide, by decide⟩ 0 ⟨by decide, by decide, by decide +kernel⟩ rfl rfl (Nat.le_of_ble_eq_true rfl) hl.1 ?_
  refine lv_if_eq (off := 19) (tgt := 23) hx hb (by decide +kernel) (by decide) (fun h => absurd h (by decide)) (fun _ => ?_)
  refine lv_aload_n (k := 0) hx hb (by decide +kernel) rfl (lv_at hl 0 rfl) ?_
  refine vk_getf hx hb (hJ.1.1 i hi).2.2.1 hS hown (hts _ (xgw_of jw3 rfl)) (fun _ h => h) (by decide +kernel) ?_
  refine lv_iload_n (k := 1) hx hb (by decide +kernel) rfl (lv_at hl 1 rfl) ?_
  refine lv_iload_n (k := 2) hx hb (by decide +kernel) rfl (lv_at hl 2 rfl) ?_
  refine lv_aload_n (k := 0) hx hb (by decide +kernel) rfl (lv_at hl 0 rfl) ?_
  refine j_callV C hi (j_len hi) jwLen (by decide +kernel) ⟨by decide, by decide⟩ 0 ⟨by decide, by decide, by decide +kernel⟩ rfl rfl (Nat.le_of_ble_eq_true rfl) hl.1 ?_
  rw [hN]
  refine j_callS C (j_L1 hi) jwL1 (by decide +kernel) ⟨by decide, by decide⟩ 4 ⟨by decide, by decide, by decide +kernel⟩ rfl rfl (Nat.le_of_ble_eq_true rfl) hl.1 ?_
  refine lv_goto (off := 16) (tgt := 36) hx hb (by decide +kernel) (by decide) ?_
  exact j_iret C rfl (by decide +kernel)
set_option maxHeartbeats 400000 in
set_option maxRecDepth 20000 in
theorem j_ix {x : Int32} (hi : i < 2) : jMet l yJ0_indexOf_0f7a4 cJ0_indexOf_0f7a4 2 (some .int) 4 A K V [.ref (K i), .int x] (some (.int (jix i x))) := by
  refine j_of _ (by decide) (Nat.le_of_ble_eq_true rfl) fun p e s m below meth c ls C hl => ?_
  obtain ⟨⟨hx, hb, hml, hown⟩, hts, hJ, hR, hret, hlocks⟩ := id C
  have hS : va_S A s.heap s.heap [] := va_S.rf
  have hl : lv_has ls 2 [(0, .ref (K i)), (1, .int x)] := hl
  refine lv_aload_n (k := 0) hx hb (by decide +kernel) rfl (lv_at hl 0 rfl) ?_
  refine lv_iload_n (k := 1) hx hb (by decide +kernel) rfl (lv_at hl 1 rfl) ?_
  refine lv_iconst (n := 0) (v := 0) hx hb (by decide +kernel) (by decide) ?_
  refine j_callV C hi (j_ix2 hi) jwIx2 (by decide +kernel) ⟨by decide, by decide⟩ 2 ⟨by decide, by decide, by decide +kernel⟩ rfl rfl (Nat.le_of_ble_eq_true rfl) hl.1 ?_
  exact j_iret C rfl (by decide +kernel)
end JDK2
