theorem zall_app {α : Type} {f : α → Bool} {a b : List α} (h1 : a.all f = true) (h2 : b.all f = true) : (a ++ b).all f = true := by rw [List.all_append, h1, h2]; rfl
set_option maxRecDepth 100000 in
theorem zt0 : zl0.all (xchk (xY 0).cls (xY 0).name (xML 0) (xBy 0)) = true := by decide +kernel
set_option maxRecDepth 100000 in
theorem zt1 : zl1.all (xchk (xY 1).cls (xY 1).name (xML 1) (xBy 1)) = true := by decide +kernel
set_option maxRecDepth 100000 in
theorem zt2 : zl2.all (xchk (xY 2).cls (xY 2).name (xML 2) (xBy 2)) = true := by decide +kernel
set_option maxRecDepth 100000 in
theorem zt3 : zl3.all (xchk (xY 3).cls (xY 3).name (xML 3) (xBy 3)) = true := by decide +kernel
set_option maxRecDepth 100000 in
theorem zt4 : zl4.all (xchk (xY 4).cls (xY 4).name (xML 4) (xBy 4)) = true := by decide +kernel
set_option maxRecDepth 100000 in
theorem zt5 : zl5.all (xchk (xY 5).cls (xY 5).name (xML 5) (xBy 5)) = true := by decide +kernel
set_option maxRecDepth 100000 in
theorem zt6 : zl6.all (xchk (xY 6).cls (xY 6).name (xML 6) (xBy 6)) = true := by decide +kernel
set_option maxRecDepth 100000 in
theorem zt7 : zl7.all (xchk (xY 7).cls (xY 7).name (xML 7) (xBy 7)) = true := by decide +kernel
set_option maxRecDepth 100000 in
theorem zt8 : zl8.all (xchk (xY 8).cls (xY 8).name (xML 8) (xBy 8)) = true := by decide +kernel
set_option maxRecDepth 100000 in
theorem zt9 : zl9.all (xchk (xY 9).cls (xY 9).name (xML 9) (xBy 9)) = true := by decide +kernel
set_option maxRecDepth 100000 in
theorem zt10 : zl10.all (xchk (xY 10).cls (xY 10).name (xML 10) (xBy 10)) = true := by decide +kernel
set_option maxRecDepth 100000 in
theorem zt11 : zl11.all (xchk (xY 11).cls (xY 11).name (xML 11) (xBy 11)) = true := by decide +kernel
set_option maxRecDepth 100000 in
theorem zt12 : zl12.all (xchk (xY 12).cls (xY 12).name (xML 12) (xBy 12)) = true := by decide +kernel
set_option maxRecDepth 100000 in
theorem zt13 : zl13.all (xchk (xY 13).cls (xY 13).name (xML 13) (xBy 13)) = true := by decide +kernel
set_option maxRecDepth 100000 in
theorem zt14 : zl14.all (xchk (xY 14).cls (xY 14).name (xML 14) (xBy 14)) = true := by decide +kernel
set_option maxRecDepth 100000 in
theorem zt15 : zl15.all (xchk (xY 15).cls (xY 15).name (xML 15) (xBy 15)) = true := by decide +kernel
set_option maxRecDepth 100000 in
theorem zt16 : zl16.all (xchk (xY 16).cls (xY 16).name (xML 16) (xBy 16)) = true := by decide +kernel
set_option maxRecDepth 100000 in
theorem zt17 : zl17.all (xchk (xY 17).cls (xY 17).name (xML 17) (xBy 17)) = true := by decide +kernel
set_option maxRecDepth 100000 in
theorem zt18 : zl18.all (xchk (xY 18).cls (xY 18).name (xML 18) (xBy 18)) = true := by decide +kernel
set_option maxRecDepth 100000 in
theorem zt19 : zl19.all (xchk (xY 19).cls (xY 19).name (xML 19) (xBy 19)) = true := by decide +kernel
set_option maxRecDepth 100000 in
theorem zt20 : zl20.all (xchk (xY 20).cls (xY 20).name (xML 20) (xBy 20)) = true := by decide +kernel
set_option maxRecDepth 100000 in
theorem zt21 : zl21.all (xchk (xY 21).cls (xY 21).name (xML 21) (xBy 21)) = true := by decide +kernel
set_option maxRecDepth 100000 in
theorem zt22 : zl22.all (xchk (xY 22).cls (xY 22).name (xML 22) (xBy 22)) = true := by decide +kernel
set_option maxRecDepth 100000 in
theorem zt23 : zl23.all (xchk (xY 23).cls (xY 23).name (xML 23) (xBy 23)) = true := by decide +kernel
set_option maxRecDepth 100000 in
theorem zt24 : zl24.all (xchk (xY 24).cls (xY 24).name (xML 24) (xBy 24)) = true := by decide +kernel
set_option maxRecDepth 100000 in
theorem zt25_0 : zl25_0.all (xchk (xY 25).cls (xY 25).name (xML 25) (xBy 25)) = true := by decide +kernel
set_option maxRecDepth 100000 in
theorem zt25_1 : zl25_1.all (xchk (xY 25).cls (xY 25).name (xML 25) (xBy 25)) = true := by decide +kernel
theorem zt25 : zl25.all (xchk (xY 25).cls (xY 25).name (xML 25) (xBy 25)) = true := (zall_app zt25_0 zt25_1)
set_option maxRecDepth 100000 in
theorem zt26_0 : zl26_0.all (xchk (xY 26).cls (xY 26).name (xML 26) (xBy 26)) = true := by decide +kernel
set_option maxRecDepth 100000 in
theorem zt26_1 : zl26_1.all (xchk (xY 26).cls (xY 26).name (xML 26) (xBy 26)) = true := by decide +kernel
theorem zt26 : zl26.all (xchk (xY 26).cls (xY 26).name (xML 26) (xBy 26)) = true := (zall_app zt26_0 zt26_1)
set_option maxRecDepth 100000 in
theorem zt27 : zl27.all (xchk (xY 27).cls (xY 27).name (xML 27) (xBy 27)) = true := by decide +kernel
set_option maxRecDepth 100000 in
theorem zt28 : zl28.all (xchk (xY 28).cls (xY 28).name (xML 28) (xBy 28)) = true := by decide +kernel
set_option maxRecDepth 100000 in
theorem zt29 : zl29.all (xchk (xY 29).cls (xY 29).name (xML 29) (xBy 29)) = true := by decide +kernel
