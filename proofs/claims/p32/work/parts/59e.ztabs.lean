set_option maxRecDepth 100000 in
theorem zt118 : zl118.all (xchk (xY 118).cls (xY 118).name (xML 118) (xBy 118)) = true := by decide +kernel
set_option maxRecDepth 100000 in
theorem zt119 : zl119.all (xchk (xY 119).cls (xY 119).name (xML 119) (xBy 119)) = true := by decide +kernel
set_option maxRecDepth 100000 in
theorem zt120 : zl120.all (xchk (xY 120).cls (xY 120).name (xML 120) (xBy 120)) = true := by decide +kernel
set_option maxRecDepth 100000 in
theorem zt121 : zl121.all (xchk (xY 121).cls (xY 121).name (xML 121) (xBy 121)) = true := by decide +kernel
set_option maxRecDepth 100000 in
theorem zt122 : zl122.all (xchk (xY 122).cls (xY 122).name (xML 122) (xBy 122)) = true := by decide +kernel
set_option maxRecDepth 100000 in
theorem zt123 : zl123.all (xchk (xY 123).cls (xY 123).name (xML 123) (xBy 123)) = true := by decide +kernel
set_option maxRecDepth 100000 in
theorem zt124 : zl124.all (xchk (xY 124).cls (xY 124).name (xML 124) (xBy 124)) = true := by decide +kernel
set_option maxRecDepth 100000 in
theorem zt125 : zl125.all (xchk (xY 125).cls (xY 125).name (xML 125) (xBy 125)) = true := by decide +kernel
set_option maxRecDepth 100000 in
theorem zt126 : zl126.all (xchk (xY 126).cls (xY 126).name (xML 126) (xBy 126)) = true := by decide +kernel
set_option maxRecDepth 100000 in
theorem zt127 : zl127.all (xchk (xY 127).cls (xY 127).name (xML 127) (xBy 127)) = true := by decide +kernel
set_option maxRecDepth 100000 in
theorem zt128_0 : zl128_0.all (xchk (xY 128).cls (xY 128).name (xML 128) (xBy 128)) = true := by decide +kernel
set_option maxRecDepth 100000 in
theorem zt128_1 : zl128_1.all (xchk (xY 128).cls (xY 128).name (xML 128) (xBy 128)) = true := by decide +kernel
set_option maxRecDepth 100000 in
theorem zt128_2 : zl128_2.all (xchk (xY 128).cls (xY 128).name (xML 128) (xBy 128)) = true := by decide +kernel
theorem zt128 : zl128.all (xchk (xY 128).cls (xY 128).name (xML 128) (xBy 128)) = true := (zall_app zt128_0 (zall_app zt128_1 zt128_2))
set_option maxRecDepth 100000 in
theorem zt129_0 : zl129_0.all (xchk (xY 129).cls (xY 129).name (xML 129) (xBy 129)) = true := by decide +kernel
set_option maxRecDepth 100000 in
theorem zt129_1 : zl129_1.all (xchk (xY 129).cls (xY 129).name (xML 129) (xBy 129)) = true := by decide +kernel
theorem zt129 : zl129.all (xchk (xY 129).cls (xY 129).name (xML 129) (xBy 129)) = true := (zall_app zt129_0 zt129_1)
set_option maxRecDepth 100000 in
theorem zt130_0 : zl130_0.all (xchk (xY 130).cls (xY 130).name (xML 130) (xBy 130)) = true := by decide +kernel
set_option maxRecDepth 100000 in
theorem zt130_1 : zl130_1.all (xchk (xY 130).cls (xY 130).name (xML 130) (xBy 130)) = true := by decide +kernel
theorem zt130 : zl130.all (xchk (xY 130).cls (xY 130).name (xML 130) (xBy 130)) = true := (zall_app zt130_0 zt130_1)
set_option maxRecDepth 100000 in
theorem zt131_0 : zl131_0.all (xchk (xY 131).cls (xY 131).name (xML 131) (xBy 131)) = true := by decide +kernel
set_option maxRecDepth 100000 in
theorem zt131_1 : zl131_1.all (xchk (xY 131).cls (xY 131).name (xML 131) (xBy 131)) = true := by decide +kernel
set_option maxRecDepth 100000 in
theorem zt131_2 : zl131_2.all (xchk (xY 131).cls (xY 131).name (xML 131) (xBy 131)) = true := by decide +kernel
set_option maxRecDepth 100000 in
theorem zt131_3 : zl131_3.all (xchk (xY 131).cls (xY 131).name (xML 131) (xBy 131)) = true := by decide +kernel
set_option maxRecDepth 100000 in
theorem zt131_4 : zl131_4.all (xchk (xY 131).cls (xY 131).name (xML 131) (xBy 131)) = true := by decide +kernel
set_option maxRecDepth 100000 in
theorem zt131_5 : zl131_5.all (xchk (xY 131).cls (xY 131).name (xML 131) (xBy 131)) = true := by decide +kernel
set_option maxRecDepth 100000 in
theorem zt131_6 : zl131_6.all (xchk (xY 131).cls (xY 131).name (xML 131) (xBy 131)) = true := by decide +kernel
set_option maxRecDepth 100000 in
theorem zt131_7 : zl131_7.all (xchk (xY 131).cls (xY 131).name (xML 131) (xBy 131)) = true := by decide +kernel
set_option maxRecDepth 100000 in
theorem zt131_8 : zl131_8.all (xchk (xY 131).cls (xY 131).name (xML 131) (xBy 131)) = true := by decide +kernel
theorem zt131 : zl131.all (xchk (xY 131).cls (xY 131).name (xML 131) (xBy 131)) = true := (zall_app zt131_0 (zall_app zt131_1 (zall_app zt131_2 (zall_app zt131_3 (zall_app zt131_4 (zall_app zt131_5 (zall_app zt131_6 (zall_app zt131_7 zt131_8))))))))
