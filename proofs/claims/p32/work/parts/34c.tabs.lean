theorem xmw60 : (List.range 20).all (fun j => decide (lw_tbl[xmp.getD (60 + j) 0]? = some (xcw (60 + j))) && goodWord (xcw (60 + j))) = true := by decide +kernel
theorem xmw80 : (List.range 20).all (fun j => decide (lw_tbl[xmp.getD (80 + j) 0]? = some (xcw (80 + j))) && goodWord (xcw (80 + j))) = true := by decide +kernel
theorem xmw100 : (List.range 20).all (fun j => decide (lw_tbl[xmp.getD (100 + j) 0]? = some (xcw (100 + j))) && goodWord (xcw (100 + j))) = true := by decide +kernel
