theorem xmw120 : (List.range 11).all (fun j => decide (lw_tbl[xmp.getD (120 + j) 0]? = some (xcw (120 + j))) && goodWord (xcw (120 + j))) = true := by decide +kernel
theorem xmw : ∀ i, i < 131 → xcw i ∈ xgw := by
  intro i hi
  have key : ∀ n k, (List.range k).all (fun j => decide (lw_tbl[xmp.getD (n + j) 0]? = some (xcw (n + j))) && goodWord (xcw (n + j))) = true → n ≤ i → i < n + k → xcw i ∈ xgw := by
    intro n k h h1 h2
    have h3 := List.all_eq_true.mp h (i - n) (List.mem_range.mpr (by omega))
    rw [show n + (i - n) = i by omega] at h3
    simp only [Bool.and_eq_true, decide_eq_true_eq] at h3
    exact xgw_of (List.mem_of_getElem? h3.1) h3.2
  by_cases h0 : i < 20
  · exact key 0 20 xmw0 (by omega) (by omega)
  by_cases h20 : i < 40
  · exact key 20 20 xmw20 (by omega) (by omega)
  by_cases h40 : i < 60
  · exact key 40 20 xmw40 (by omega) (by omega)
  by_cases h60 : i < 80
  · exact key 60 20 xmw60 (by omega) (by omega)
  by_cases h80 : i < 100
  · exact key 80 20 xmw80 (by omega) (by omega)
  by_cases h100 : i < 120
  · exact key 100 20 xmw100 (by omega) (by omega)
  by_cases h120 : i < 131
  · exact key 120 11 xmw120 (by omega) (by omega)
  omega
