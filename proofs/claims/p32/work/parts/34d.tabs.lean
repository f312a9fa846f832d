theorem xmw100 : (List.range 5).all (fun j => decide (lw_tbl[xmp.getD (100 + j) 0]? = some (xcw (100 + j))) && goodWord (xcw (100 + j))) = true := by decide +kernel
theorem xmw105 : (List.range 5).all (fun j => decide (lw_tbl[xmp.getD (105 + j) 0]? = some (xcw (105 + j))) && goodWord (xcw (105 + j))) = true := by decide +kernel
theorem xmw110 : (List.range 5).all (fun j => decide (lw_tbl[xmp.getD (110 + j) 0]? = some (xcw (110 + j))) && goodWord (xcw (110 + j))) = true := by decide +kernel
theorem xmw115 : (List.range 5).all (fun j => decide (lw_tbl[xmp.getD (115 + j) 0]? = some (xcw (115 + j))) && goodWord (xcw (115 + j))) = true := by decide +kernel
theorem xmw120 : (List.range 5).all (fun j => decide (lw_tbl[xmp.getD (120 + j) 0]? = some (xcw (120 + j))) && goodWord (xcw (120 + j))) = true := by decide +kernel
theorem xmw125 : (List.range 5).all (fun j => decide (lw_tbl[xmp.getD (125 + j) 0]? = some (xcw (125 + j))) && goodWord (xcw (125 + j))) = true := by decide +kernel
theorem xmw130 : (List.range 1).all (fun j => decide (lw_tbl[xmp.getD (130 + j) 0]? = some (xcw (130 + j))) && goodWord (xcw (130 + j))) = true := by decide +kernel
theorem xmw : ∀ i, i < 131 → xcw i ∈ xgw := by
  intro i hi
  have key : ∀ n k, (List.range k).all (fun j => decide (lw_tbl[xmp.getD (n + j) 0]? = some (xcw (n + j))) && goodWord (xcw (n + j))) = true → n ≤ i → i < n + k → xcw i ∈ xgw := by
    intro n k h h1 h2
    have h3 := List.all_eq_true.mp h (i - n) (List.mem_range.mpr (by omega))
    rw [show n + (i - n) = i by omega] at h3
    simp only [Bool.and_eq_true, decide_eq_true_eq] at h3
    exact xgw_of (List.mem_of_getElem? h3.1) h3.2
  by_cases h0 : i < 5
  · exact key 0 5 xmw0 (by omega) (by omega)
  by_cases h5 : i < 10
  · exact key 5 5 xmw5 (by omega) (by omega)
  by_cases h10 : i < 15
  · exact key 10 5 xmw10 (by omega) (by omega)
  by_cases h15 : i < 20
  · exact key 15 5 xmw15 (by omega) (by omega)
  by_cases h20 : i < 25
  · exact key 20 5 xmw20 (by omega) (by omega)
  by_cases h25 : i < 30
  · exact key 25 5 xmw25 (by omega) (by omega)
  by_cases h30 : i < 35
  · exact key 30 5 xmw30 (by omega) (by omega)
  by_cases h35 : i < 40
  · exact key 35 5 xmw35 (by omega) (by omega)
  by_cases h40 : i < 45
  · exact key 40 5 xmw40 (by omega) (by omega)
  by_cases h45 : i < 50
  · exact key 45 5 xmw45 (by omega) (by omega)
  by_cases h50 : i < 55
  · exact key 50 5 xmw50 (by omega) (by omega)
  by_cases h55 : i < 60
  · exact key 55 5 xmw55 (by omega) (by omega)
  by_cases h60 : i < 65
  · exact key 60 5 xmw60 (by omega) (by omega)
  by_cases h65 : i < 70
  · exact key 65 5 xmw65 (by omega) (by omega)
  by_cases h70 : i < 75
  · exact key 70 5 xmw70 (by omega) (by omega)
  by_cases h75 : i < 80
  · exact key 75 5 xmw75 (by omega) (by omega)
  by_cases h80 : i < 85
  · exact key 80 5 xmw80 (by omega) (by omega)
  by_cases h85 : i < 90
  · exact key 85 5 xmw85 (by omega) (by omega)
  by_cases h90 : i < 95
  · exact key 90 5 xmw90 (by omega) (by omega)
  by_cases h95 : i < 100
  · exact key 95 5 xmw95 (by omega) (by omega)
  by_cases h100 : i < 105
  · exact key 100 5 xmw100 (by omega) (by omega)
  by_cases h105 : i < 110
  · exact key 105 5 xmw105 (by omega) (by omega)
  by_cases h110 : i < 115
  · exact key 110 5 xmw110 (by omega) (by omega)
  by_cases h115 : i < 120
  · exact key 115 5 xmw115 (by omega) (by omega)
  by_cases h120 : i < 125
  · exact key 120 5 xmw120 (by omega) (by omega)
  by_cases h125 : i < 130
  · exact key 125 5 xmw125 (by omega) (by omega)
  by_cases h130 : i < 131
  · exact key 130 1 xmw130 (by omega) (by omega)
  omega
