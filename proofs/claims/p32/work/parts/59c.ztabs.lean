set_option maxRecDepth 100000 in
theorem zt60 : zl60.all (xchk (xY 60).cls (xY 60).name (xML 60) (xBy 60)) = true := by decide +kernel
set_option maxRecDepth 100000 in
theorem zt61 : zl61.all (xchk (xY 61).cls (xY 61).name (xML 61) (xBy 61)) = true := by decide +kernel
set_option maxRecDepth 100000 in
theorem zt62 : zl62.all (xchk (xY 62).cls (xY 62).name (xML 62) (xBy 62)) = true := by decide +kernel
set_option maxRecDepth 100000 in
theorem zt63 : zl63.all (xchk (xY 63).cls (xY 63).name (xML 63) (xBy 63)) = true := by decide +kernel
set_option maxRecDepth 100000 in
theorem zt64_0 : zl64_0.all (xchk (xY 64).cls (xY 64).name (xML 64) (xBy 64)) = true := by decide +kernel
set_option maxRecDepth 100000 in
theorem zt64_1 : zl64_1.all (xchk (xY 64).cls (xY 64).name (xML 64) (xBy 64)) = true := by decide +kernel
theorem zt64 : zl64.all (xchk (xY 64).cls (xY 64).name (xML 64) (xBy 64)) = true := (zall_app zt64_0 zt64_1)
set_option maxRecDepth 100000 in
theorem zt65 : zl65.all (xchk (xY 65).cls (xY 65).name (xML 65) (xBy 65)) = true := by decide +kernel
set_option maxRecDepth 100000 in
theorem zt66 : zl66.all (xchk (xY 66).cls (xY 66).name (xML 66) (xBy 66)) = true := by decide +kernel
set_option maxRecDepth 100000 in
theorem zt67 : zl67.all (xchk (xY 67).cls (xY 67).name (xML 67) (xBy 67)) = true := by decide +kernel
set_option maxRecDepth 100000 in
theorem zt68 : zl68.all (xchk (xY 68).cls (xY 68).name (xML 68) (xBy 68)) = true := by decide +kernel
set_option maxRecDepth 100000 in
theorem zt69 : zl69.all (xchk (xY 69).cls (xY 69).name (xML 69) (xBy 69)) = true := by decide +kernel
set_option maxRecDepth 100000 in
theorem zt70 : zl70.all (xchk (xY 70).cls (xY 70).name (xML 70) (xBy 70)) = true := by decide +kernel
set_option maxRecDepth 100000 in
theorem zt71 : zl71.all (xchk (xY 71).cls (xY 71).name (xML 71) (xBy 71)) = true := by decide +kernel
set_option maxRecDepth 100000 in
theorem zt72 : zl72.all (xchk (xY 72).cls (xY 72).name (xML 72) (xBy 72)) = true := by decide +kernel
set_option maxRecDepth 100000 in
theorem zt73 : zl73.all (xchk (xY 73).cls (xY 73).name (xML 73) (xBy 73)) = true := by decide +kernel
set_option maxRecDepth 100000 in
theorem zt74 : zl74.all (xchk (xY 74).cls (xY 74).name (xML 74) (xBy 74)) = true := by decide +kernel
set_option maxRecDepth 100000 in
theorem zt75 : zl75.all (xchk (xY 75).cls (xY 75).name (xML 75) (xBy 75)) = true := by decide +kernel
set_option maxRecDepth 100000 in
theorem zt76 : zl76.all (xchk (xY 76).cls (xY 76).name (xML 76) (xBy 76)) = true := by decide +kernel
set_option maxRecDepth 100000 in
theorem zt77 : zl77.all (xchk (xY 77).cls (xY 77).name (xML 77) (xBy 77)) = true := by decide +kernel
set_option maxRecDepth 100000 in
theorem zt78 : zl78.all (xchk (xY 78).cls (xY 78).name (xML 78) (xBy 78)) = true := by decide +kernel
set_option maxRecDepth 100000 in
theorem zt79 : zl79.all (xchk (xY 79).cls (xY 79).name (xML 79) (xBy 79)) = true := by decide +kernel
set_option maxRecDepth 100000 in
theorem zt80 : zl80.all (xchk (xY 80).cls (xY 80).name (xML 80) (xBy 80)) = true := by decide +kernel
set_option maxRecDepth 100000 in
theorem zt81 : zl81.all (xchk (xY 81).cls (xY 81).name (xML 81) (xBy 81)) = true := by decide +kernel
set_option maxRecDepth 100000 in
theorem zt82 : zl82.all (xchk (xY 82).cls (xY 82).name (xML 82) (xBy 82)) = true := by decide +kernel
set_option maxRecDepth 100000 in
theorem zt83 : zl83.all (xchk (xY 83).cls (xY 83).name (xML 83) (xBy 83)) = true := by decide +kernel
set_option maxRecDepth 100000 in
theorem zt84 : zl84.all (xchk (xY 84).cls (xY 84).name (xML 84) (xBy 84)) = true := by decide +kernel
set_option maxRecDepth 100000 in
theorem zt85 : zl85.all (xchk (xY 85).cls (xY 85).name (xML 85) (xBy 85)) = true := by decide +kernel
set_option maxRecDepth 100000 in
theorem zt86 : zl86.all (xchk (xY 86).cls (xY 86).name (xML 86) (xBy 86)) = true := by decide +kernel
set_option maxRecDepth 100000 in
theorem zt87 : zl87.all (xchk (xY 87).cls (xY 87).name (xML 87) (xBy 87)) = true := by decide +kernel
set_option maxRecDepth 100000 in
theorem zt88 : zl88.all (xchk (xY 88).cls (xY 88).name (xML 88) (xBy 88)) = true := by decide +kernel
set_option maxRecDepth 100000 in
theorem zt89 : zl89.all (xchk (xY 89).cls (xY 89).name (xML 89) (xBy 89)) = true := by decide +kernel
