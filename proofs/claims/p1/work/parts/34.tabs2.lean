set_option maxRecDepth 100000 in
theorem xt157_0 : xi157_0.all (xchk RL "law" 9 code) = true := by decide +kernel
set_option maxRecDepth 100000 in
theorem xt157_1 : xi157_1.all (xchk RL "law" 9 code) = true := by decide +kernel
set_option maxRecDepth 100000 in
theorem xt157_2 : xi157_2.all (xchk RL "law" 9 code) = true := by decide +kernel
set_option maxRecDepth 100000 in
theorem xt157_3 : xi157_3.all (xchk RL "law" 9 code) = true := by decide +kernel
set_option maxRecDepth 100000 in
theorem xt157_4 : xi157_4.all (xchk RL "law" 9 code) = true := by decide +kernel
set_option maxRecDepth 100000 in
theorem xt157_5 : xi157_5.all (xchk RL "law" 9 code) = true := by decide +kernel
set_option maxRecDepth 100000 in
theorem xt157_6 : xi157_6.all (xchk RL "law" 9 code) = true := by decide +kernel
set_option maxRecDepth 100000 in
theorem xt157_7 : xi157_7.all (xchk RL "law" 9 code) = true := by decide +kernel
set_option maxRecDepth 100000 in
theorem xt157_8 : xi157_8.all (xchk RL "law" 9 code) = true := by decide +kernel
set_option maxRecDepth 100000 in
theorem xt157_9 : xi157_9.all (xchk RL "law" 9 code) = true := by decide +kernel
set_option maxRecDepth 100000 in
theorem xt157_10 : xi157_10.all (xchk RL "law" 9 code) = true := by decide +kernel
set_option maxRecDepth 100000 in
theorem xt157_11 : xi157_11.all (xchk RL "law" 9 code) = true := by decide +kernel
set_option maxRecDepth 100000 in
theorem xt157_12 : xi157_12.all (xchk RL "law" 9 code) = true := by decide +kernel
set_option maxRecDepth 100000 in
theorem xt157_13 : xi157_13.all (xchk RL "law" 9 code) = true := by decide +kernel
set_option maxRecDepth 100000 in
theorem xt157_14 : xi157_14.all (xchk RL "law" 9 code) = true := by decide +kernel
set_option maxRecDepth 100000 in
theorem xt157_15 : xi157_15.all (xchk RL "law" 9 code) = true := by decide +kernel
set_option maxRecDepth 100000 in
theorem xt157_16 : xi157_16.all (xchk RL "law" 9 code) = true := by decide +kernel
set_option maxRecDepth 100000 in
theorem xt157_17 : xi157_17.all (xchk RL "law" 9 code) = true := by decide +kernel
set_option maxRecDepth 100000 in
theorem xt157_18 : xi157_18.all (xchk RL "law" 9 code) = true := by decide +kernel
set_option maxRecDepth 100000 in
theorem xt157_19 : xi157_19.all (xchk RL "law" 9 code) = true := by decide +kernel
set_option maxRecDepth 100000 in
theorem xt157_20 : xi157_20.all (xchk RL "law" 9 code) = true := by decide +kernel
set_option maxRecDepth 100000 in
theorem xt157_21 : xi157_21.all (xchk RL "law" 9 code) = true := by decide +kernel
set_option maxRecDepth 100000 in
theorem xt157_22 : xi157_22.all (xchk RL "law" 9 code) = true := by decide +kernel
set_option maxRecDepth 100000 in
theorem xt157_23 : xi157_23.all (xchk RL "law" 9 code) = true := by decide +kernel
set_option maxRecDepth 100000 in
theorem xt157_24 : xi157_24.all (xchk RL "law" 9 code) = true := by decide +kernel
set_option maxRecDepth 100000 in
theorem xt157_25 : xi157_25.all (xchk RL "law" 9 code) = true := by decide +kernel
set_option maxRecDepth 100000 in
theorem xt157_26 : xi157_26.all (xchk RL "law" 9 code) = true := by decide +kernel
set_option maxRecDepth 100000 in
theorem xt157_27 : xi157_27.all (xchk RL "law" 9 code) = true := by decide +kernel
set_option maxRecDepth 100000 in
theorem xt157_28 : xi157_28.all (xchk RL "law" 9 code) = true := by decide +kernel
theorem xall_app {α : Type} {f : α → Bool} {a b : List α} (h1 : a.all f = true) (h2 : b.all f = true) : (a ++ b).all f = true := by rw [List.all_append, h1, h2]; rfl
set_option maxRecDepth 100000 in
set_option maxHeartbeats 4000000 in
theorem xt157 : xTab RL "law" 9 code xlaw := xTab_of xi157 rfl ((xall_app xt157_0 (xall_app xt157_1 (xall_app xt157_2 (xall_app xt157_3 (xall_app xt157_4 (xall_app xt157_5 (xall_app xt157_6 (xall_app xt157_7 (xall_app xt157_8 (xall_app xt157_9 (xall_app xt157_10 (xall_app xt157_11 (xall_app xt157_12 (xall_app xt157_13 (xall_app xt157_14 (xall_app xt157_15 (xall_app xt157_16 (xall_app xt157_17 (xall_app xt157_18 (xall_app xt157_19 (xall_app xt157_20 (xall_app xt157_21 (xall_app xt157_22 (xall_app xt157_23 (xall_app xt157_24 (xall_app xt157_25 (xall_app xt157_26 (xall_app xt157_27 xt157_28)))))))))))))))))))))))))))))
theorem xtabs : ∀ i, i < 157 → xTab (xY i).cls (xY i).name (xML i) (xBy i) (xmeths i)
  | 0, _ => xt0
  | 1, _ => xt1
  | 2, _ => xt2
  | 3, _ => xt3
  | 4, _ => xt4
  | 5, _ => xt5
  | 6, _ => xt6
  | 7, _ => xt7
  | 8, _ => xt8
  | 9, _ => xt9
  | 10, _ => xt10
  | 11, _ => xt11
  | 12, _ => xt12
  | 13, _ => xt13
  | 14, _ => xt14
  | 15, _ => xt15
  | 16, _ => xt16
  | 17, _ => xt17
  | 18, _ => xt18
  | 19, _ => xt19
  | 20, _ => xt20
  | 21, _ => xt21
  | 22, _ => xt22
  | 23, _ => xt23
  | 24, _ => xt24
  | 25, _ => xt25
  | 26, _ => xt26
  | 27, _ => xt27
  | 28, _ => xt28
  | 29, _ => xt29
  | 30, _ => xt30
  | 31, _ => xt31
  | 32, _ => xt32
  | 33, _ => xt33
  | 34, _ => xt34
  | 35, _ => xt35
  | 36, _ => xt36
  | 37, _ => xt37
  | 38, _ => xt38
  | 39, _ => xt39
  | 40, _ => xt40
  | 41, _ => xt41
  | 42, _ => xt42
  | 43, _ => xt43
  | 44, _ => xt44
  | 45, _ => xt45
  | 46, _ => xt46
  | 47, _ => xt47
  | 48, _ => xt48
  | 49, _ => xt49
  | 50, _ => xt50
  | 51, _ => xt51
  | 52, _ => xt52
  | 53, _ => xt53
  | 54, _ => xt54
  | 55, _ => xt55
  | 56, _ => xt56
  | 57, _ => xt57
  | 58, _ => xt58
  | 59, _ => xt59
  | 60, _ => xt60
  | 61, _ => xt61
  | 62, _ => xt62
  | 63, _ => xt63
  | 64, _ => xt64
  | 65, _ => xt65
  | 66, _ => xt66
  | 67, _ => xt67
  | 68, _ => xt68
  | 69, _ => xt69
  | 70, _ => xt70
  | 71, _ => xt71
  | 72, _ => xt72
  | 73, _ => xt73
  | 74, _ => xt74
  | 75, _ => xt75
  | 76, _ => xt76
  | 77, _ => xt77
  | 78, _ => xt78
  | 79, _ => xt79
  | 80, _ => xt80
  | 81, _ => xt81
  | 82, _ => xt82
  | 83, _ => xt83
  | 84, _ => xt84
  | 85, _ => xt85
  | 86, _ => xt86
  | 87, _ => xt87
  | 88, _ => xt88
  | 89, _ => xt89
  | 90, _ => xt90
  | 91, _ => xt91
  | 92, _ => xt92
  | 93, _ => xt93
  | 94, _ => xt94
  | 95, _ => xt95
  | 96, _ => xt96
  | 97, _ => xt97
  | 98, _ => xt98
  | 99, _ => xt99
  | 100, _ => xt100
  | 101, _ => xt101
  | 102, _ => xt102
  | 103, _ => xt103
  | 104, _ => xt104
  | 105, _ => xt105
  | 106, _ => xt106
  | 107, _ => xt107
  | 108, _ => xt108
  | 109, _ => xt109
  | 110, _ => xt110
  | 111, _ => xt111
  | 112, _ => xt112
  | 113, _ => xt113
  | 114, _ => xt114
  | 115, _ => xt115
  | 116, _ => xt116
  | 117, _ => xt117
  | 118, _ => xt118
  | 119, _ => xt119
  | 120, _ => xt120
  | 121, _ => xt121
  | 122, _ => xt122
  | 123, _ => xt123
  | 124, _ => xt124
  | 125, _ => xt125
  | 126, _ => xt126
  | 127, _ => xt127
  | 128, _ => xt128
  | 129, _ => xt129
  | 130, _ => xt130
  | 131, _ => xt131
  | 132, _ => xt132
  | 133, _ => xt133
  | 134, _ => xt134
  | 135, _ => xt135
  | 136, _ => xt136
  | 137, _ => xt137
  | 138, _ => xt138
  | 139, _ => xt139
  | 140, _ => xt140
  | 141, _ => xt141
  | 142, _ => xt142
  | 143, _ => xt143
  | 144, _ => xt144
  | 145, _ => xt145
  | 146, _ => xt146
  | 147, _ => xt147
  | 148, _ => xt148
  | 149, _ => xt149
  | 150, _ => xt150
  | 151, _ => xt151
  | 152, _ => xt152
  | 153, _ => xt153
  | 154, _ => xt154
  | 155, _ => xt155
  | 156, _ => xt156
  | n + 157, h => absurd h (by omega)
def xrk (t : Option FieldType) : Nat := match t with
  | none => 0
  | some .int => 1
  | some .char => 2
  | some .boolean => 3
  | some .long => 4
  | some .double => 5
  | some .float => 7
  | some .byte => 8
  | some .short => 8
  | some (.object _) => 6
  | some (.array _) => 6
theorem xmf : (List.range 157).all (fun i => plainName (xY i).cls && (decide ((xY i).cls ≠ "java/lang/invoke/MethodHandle" ∧ (xY i).cls ≠ "java/lang/invoke/VarHandle") && (decide ((parseMethodDescriptor (xY i).desc).map (fun d => d.parameters.length) = some (xmeths i).2.2.1) && (decide (xML i ≤ 40 ∧ (xmeths i).1.1.2 = xML i) && (decide (xrk (xRt i) = (xmeths i).2.2.2.1) && (decide ((xmeths i).2.1 = [] ↔ xHH i = []))))))) = true := by decide +kernel
theorem xmw0 : (List.range 20).all (fun j => decide (lw_tbl[xmp.getD (0 + j) 0]? = some (xcw (0 + j))) && goodWord (xcw (0 + j))) = true := by decide +kernel
theorem xmw20 : (List.range 20).all (fun j => decide (lw_tbl[xmp.getD (20 + j) 0]? = some (xcw (20 + j))) && goodWord (xcw (20 + j))) = true := by decide +kernel
theorem xmw40 : (List.range 20).all (fun j => decide (lw_tbl[xmp.getD (40 + j) 0]? = some (xcw (40 + j))) && goodWord (xcw (40 + j))) = true := by decide +kernel
theorem xmw60 : (List.range 20).all (fun j => decide (lw_tbl[xmp.getD (60 + j) 0]? = some (xcw (60 + j))) && goodWord (xcw (60 + j))) = true := by decide +kernel
theorem xmw80 : (List.range 20).all (fun j => decide (lw_tbl[xmp.getD (80 + j) 0]? = some (xcw (80 + j))) && goodWord (xcw (80 + j))) = true := by decide +kernel
theorem xmw100 : (List.range 20).all (fun j => decide (lw_tbl[xmp.getD (100 + j) 0]? = some (xcw (100 + j))) && goodWord (xcw (100 + j))) = true := by decide +kernel
theorem xmw120 : (List.range 20).all (fun j => decide (lw_tbl[xmp.getD (120 + j) 0]? = some (xcw (120 + j))) && goodWord (xcw (120 + j))) = true := by decide +kernel
theorem xmw140 : (List.range 17).all (fun j => decide (lw_tbl[xmp.getD (140 + j) 0]? = some (xcw (140 + j))) && goodWord (xcw (140 + j))) = true := by decide +kernel
theorem xmw : ∀ i, i < 157 → xcw i ∈ xgw := by
  intro i hi
  have key : ∀ n k, (List.range k).all (fun j => decide (lw_tbl[xmp.getD (n + j) 0]? = some (xcw (n + j))) && goodWord (xcw (n + j))) = true → n ≤ i → i < n + k → xcw i ∈ xgw := by
    intro n k h h1 h2
    have h3 := List.all_eq_true.mp h (i - n) (List.mem_range.mpr (by omega))
    rw [show n + (i - n) = i by omega] at h3
    simp only [Bool.and_eq_true, decide_eq_true_eq] at h3
    exact xgw_of (List.mem_of_getElem? h3.1) h3.2
  by_cases h0 : i < 20
  · exact key 0 20 xmw0 (by omega) (by omega)
  by_cases h20 : i < 40
  · exact key 20 20 xmw20 (by omega) (by omega)
  by_cases h40 : i < 60
  · exact key 40 20 xmw40 (by omega) (by omega)
  by_cases h60 : i < 80
  · exact key 60 20 xmw60 (by omega) (by omega)
  by_cases h80 : i < 100
  · exact key 80 20 xmw80 (by omega) (by omega)
  by_cases h100 : i < 120
  · exact key 100 20 xmw100 (by omega) (by omega)
  by_cases h120 : i < 140
  · exact key 120 20 xmw120 (by omega) (by omega)
  by_cases h140 : i < 157
  · exact key 140 17 xmw140 (by omega) (by omega)
  omega
