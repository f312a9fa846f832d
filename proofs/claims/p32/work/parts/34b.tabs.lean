theorem xmw0 : (List.range 20).all (fun j => decide (lw_tbl[xmp.getD (0 + j) 0]? = some (xcw (0 + j))) && goodWord (xcw (0 + j))) = true := by decide +kernel
theorem xmw20 : (List.range 20).all (fun j => decide (lw_tbl[xmp.getD (20 + j) 0]? = some (xcw (20 + j))) && goodWord (xcw (20 + j))) = true := by decide +kernel
theorem xmw40 : (List.range 20).all (fun j => decide (lw_tbl[xmp.getD (40 + j) 0]? = some (xcw (40 + j))) && goodWord (xcw (40 + j))) = true := by decide +kernel
