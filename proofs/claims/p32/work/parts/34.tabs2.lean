theorem xtabs : ∀ i, i < 131 → xTab (xY i).cls (xY i).name (xML i) (xBy i) (xmeths i)
  | 0, _ => xt0
  | 1, _ => xt1
  | 2, _ => xt2
  | 3, _ => xt3
  | 4, _ => xt4
  | 5, _ => xt5
  | 6, _ => xt6
  | 7, _ => xt7
  | 8, _ => xt8
  | 9, _ => xt9
  | 10, _ => xt10
  | 11, _ => xt11
  | 12, _ => xt12
  | 13, _ => xt13
  | 14, _ => xt14
  | 15, _ => xt15
  | 16, _ => xt16
  | 17, _ => xt17
  | 18, _ => xt18
  | 19, _ => xt19
  | 20, _ => xt20
  | 21, _ => xt21
  | 22, _ => xt22
  | 23, _ => xt23
  | 24, _ => xt24
  | 25, _ => xt25
  | 26, _ => xt26
  | 27, _ => xt27
  | 28, _ => xt28
  | 29, _ => xt29
  | 30, _ => xt30
  | 31, _ => xt31
  | 32, _ => xt32
  | 33, _ => xt33
  | 34, _ => xt34
  | 35, _ => xt35
  | 36, _ => xt36
  | 37, _ => xt37
  | 38, _ => xt38
  | 39, _ => xt39
  | 40, _ => xt40
  | 41, _ => xt41
  | 42, _ => xt42
  | 43, _ => xt43
  | 44, _ => xt44
  | 45, _ => xt45
  | 46, _ => xt46
  | 47, _ => xt47
  | 48, _ => xt48
  | 49, _ => xt49
  | 50, _ => xt50
  | 51, _ => xt51
  | 52, _ => xt52
  | 53, _ => xt53
  | 54, _ => xt54
  | 55, _ => xt55
  | 56, _ => xt56
  | 57, _ => xt57
  | 58, _ => xt58
  | 59, _ => xt59
  | 60, _ => xt60
  | 61, _ => xt61
  | 62, _ => xt62
  | 63, _ => xt63
  | 64, _ => xt64
  | 65, _ => xt65
  | 66, _ => xt66
  | 67, _ => xt67
  | 68, _ => xt68
  | 69, _ => xt69
  | 70, _ => xt70
  | 71, _ => xt71
  | 72, _ => xt72
  | 73, _ => xt73
  | 74, _ => xt74
  | 75, _ => xt75
  | 76, _ => xt76
  | 77, _ => xt77
  | 78, _ => xt78
  | 79, _ => xt79
  | 80, _ => xt80
  | 81, _ => xt81
  | 82, _ => xt82
  | 83, _ => xt83
  | 84, _ => xt84
  | 85, _ => xt85
  | 86, _ => xt86
  | 87, _ => xt87
  | 88, _ => xt88
  | 89, _ => xt89
  | 90, _ => xt90
  | 91, _ => xt91
  | 92, _ => xt92
  | 93, _ => xt93
  | 94, _ => xt94
  | 95, _ => xt95
  | 96, _ => xt96
  | 97, _ => xt97
  | 98, _ => xt98
  | 99, _ => xt99
  | 100, _ => xt100
  | 101, _ => xt101
  | 102, _ => xt102
  | 103, _ => xt103
  | 104, _ => xt104
  | 105, _ => xt105
  | 106, _ => xt106
  | 107, _ => xt107
  | 108, _ => xt108
  | 109, _ => xt109
  | 110, _ => xt110
  | 111, _ => xt111
  | 112, _ => xt112
  | 113, _ => xt113
  | 114, _ => xt114
  | 115, _ => xt115
  | 116, _ => xt116
  | 117, _ => xt117
  | 118, _ => xt118
  | 119, _ => xt119
  | 120, _ => xt120
  | 121, _ => xt121
  | 122, _ => xt122
  | 123, _ => xt123
  | 124, _ => xt124
  | 125, _ => xt125
  | 126, _ => xt126
  | 127, _ => xt127
  | 128, _ => xt128
  | 129, _ => xt129
  | 130, _ => xt130
  | n + 131, h => absurd h (by omega)
def xrk (t : Option FieldType) : Nat := match t with
  | none => 0
  | some .int => 1
  | some .char => 2
  | some .boolean => 3
  | some .long => 4
  | some .double => 5
  | some .float => 7
  | some .byte => 8
  | some .short => 8
  | some (.object _) => 6
  | some (.array _) => 6
theorem xmf : (List.range 131).all (fun i => plainName (xY i).cls && (decide ((xY i).cls ≠ "java/lang/invoke/MethodHandle" ∧ (xY i).cls ≠ "java/lang/invoke/VarHandle") && (decide ((parseMethodDescriptor (xY i).desc).map (fun d => d.parameters.length) = some (xmeths i).2.2.1) && (decide (xML i ≤ 40 ∧ (xmeths i).1.1.2 = xML i) && (decide (xrk (xRt i) = (xmeths i).2.2.2.1) && (decide ((xmeths i).2.1 = [] ↔ xHH i = []))))))) = true := by decide +kernel
theorem xmw0 : (List.range 20).all (fun j => decide (lw_tbl[xmp.getD (0 + j) 0]? = some (xcw (0 + j))) && goodWord (xcw (0 + j))) = true := by decide +kernel
theorem xmw20 : (List.range 20).all (fun j => decide (lw_tbl[xmp.getD (20 + j) 0]? = some (xcw (20 + j))) && goodWord (xcw (20 + j))) = true := by decide +kernel
theorem xmw40 : (List.range 20).all (fun j => decide (lw_tbl[xmp.getD (40 + j) 0]? = some (xcw (40 + j))) && goodWord (xcw (40 + j))) = true := by decide +kernel
theorem xmw60 : (List.range 20).all (fun j => decide (lw_tbl[xmp.getD (60 + j) 0]? = some (xcw (60 + j))) && goodWord (xcw (60 + j))) = true := by decide +kernel
theorem xmw80 : (List.range 20).all (fun j => decide (lw_tbl[xmp.getD (80 + j) 0]? = some (xcw (80 + j))) && goodWord (xcw (80 + j))) = true := by decide +kernel
theorem xmw100 : (List.range 20).all (fun j => decide (lw_tbl[xmp.getD (100 + j) 0]? = some (xcw (100 + j))) && goodWord (xcw (100 + j))) = true := by decide +kernel
theorem xmw120 : (List.range 11).all (fun j => decide (lw_tbl[xmp.getD (120 + j) 0]? = some (xcw (120 + j))) && goodWord (xcw (120 + j))) = true := by decide +kernel
theorem xmw : ∀ i, i < 131 → xcw i ∈ xgw := by
  intro i hi
  have key : ∀ n k, (List.range k).all (fun j => decide (lw_tbl[xmp.getD (n + j) 0]? = some (xcw (n + j))) && goodWord (xcw (n + j))) = true → n ≤ i → i < n + k → xcw i ∈ xgw := by
    intro n k h h1 h2
    have h3 := List.all_eq_true.mp h (i - n) (List.mem_range.mpr (by omega))
    rw [show n + (i - n) = i by omega] at h3
    simp only [Bool.and_eq_true, decide_eq_true_eq] at h3
    exact xgw_of (List.mem_of_getElem? h3.1) h3.2
  by_cases h0 : i < 20
  · exact key 0 20 xmw0 (by omega) (by omega)
  by_cases h20 : i < 40
  · exact key 20 20 xmw20 (by omega) (by omega)
  by_cases h40 : i < 60
  · exact key 40 20 xmw40 (by omega) (by omega)
  by_cases h60 : i < 80
  · exact key 60 20 xmw60 (by omega) (by omega)
  by_cases h80 : i < 100
  · exact key 80 20 xmw80 (by omega) (by omega)
  by_cases h100 : i < 120
  · exact key 100 20 xmw100 (by omega) (by omega)
  by_cases h120 : i < 131
  · exact key 120 11 xmw120 (by omega) (by omega)
  omega
