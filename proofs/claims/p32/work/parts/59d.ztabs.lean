set_option maxRecDepth 100000 in
theorem zt90 : zl90.all (xchk (xY 90).cls (xY 90).name (xML 90) (xBy 90)) = true := by decide +kernel
set_option maxRecDepth 100000 in
theorem zt91 : zl91.all (xchk (xY 91).cls (xY 91).name (xML 91) (xBy 91)) = true := by decide +kernel
set_option maxRecDepth 100000 in
theorem zt92 : zl92.all (xchk (xY 92).cls (xY 92).name (xML 92) (xBy 92)) = true := by decide +kernel
set_option maxRecDepth 100000 in
theorem zt93 : zl93.all (xchk (xY 93).cls (xY 93).name (xML 93) (xBy 93)) = true := by decide +kernel
set_option maxRecDepth 100000 in
theorem zt94 : zl94.all (xchk (xY 94).cls (xY 94).name (xML 94) (xBy 94)) = true := by decide +kernel
set_option maxRecDepth 100000 in
theorem zt95 : zl95.all (xchk (xY 95).cls (xY 95).name (xML 95) (xBy 95)) = true := by decide +kernel
set_option maxRecDepth 100000 in
theorem zt96 : zl96.all (xchk (xY 96).cls (xY 96).name (xML 96) (xBy 96)) = true := by decide +kernel
set_option maxRecDepth 100000 in
theorem zt97 : zl97.all (xchk (xY 97).cls (xY 97).name (xML 97) (xBy 97)) = true := by decide +kernel
set_option maxRecDepth 100000 in
theorem zt98 : zl98.all (xchk (xY 98).cls (xY 98).name (xML 98) (xBy 98)) = true := by decide +kernel
set_option maxRecDepth 100000 in
theorem zt99 : zl99.all (xchk (xY 99).cls (xY 99).name (xML 99) (xBy 99)) = true := by decide +kernel
set_option maxRecDepth 100000 in
theorem zt100 : zl100.all (xchk (xY 100).cls (xY 100).name (xML 100) (xBy 100)) = true := by decide +kernel
set_option maxRecDepth 100000 in
theorem zt101 : zl101.all (xchk (xY 101).cls (xY 101).name (xML 101) (xBy 101)) = true := by decide +kernel
set_option maxRecDepth 100000 in
theorem zt102 : zl102.all (xchk (xY 102).cls (xY 102).name (xML 102) (xBy 102)) = true := by decide +kernel
set_option maxRecDepth 100000 in
theorem zt103 : zl103.all (xchk (xY 103).cls (xY 103).name (xML 103) (xBy 103)) = true := by decide +kernel
set_option maxRecDepth 100000 in
theorem zt104 : zl104.all (xchk (xY 104).cls (xY 104).name (xML 104) (xBy 104)) = true := by decide +kernel
set_option maxRecDepth 100000 in
theorem zt105 : zl105.all (xchk (xY 105).cls (xY 105).name (xML 105) (xBy 105)) = true := by decide +kernel
set_option maxRecDepth 100000 in
theorem zt106 : zl106.all (xchk (xY 106).cls (xY 106).name (xML 106) (xBy 106)) = true := by decide +kernel
set_option maxRecDepth 100000 in
theorem zt107 : zl107.all (xchk (xY 107).cls (xY 107).name (xML 107) (xBy 107)) = true := by decide +kernel
set_option maxRecDepth 100000 in
theorem zt108 : zl108.all (xchk (xY 108).cls (xY 108).name (xML 108) (xBy 108)) = true := by decide +kernel
set_option maxRecDepth 100000 in
theorem zt109 : zl109.all (xchk (xY 109).cls (xY 109).name (xML 109) (xBy 109)) = true := by decide +kernel
set_option maxRecDepth 100000 in
theorem zt110 : zl110.all (xchk (xY 110).cls (xY 110).name (xML 110) (xBy 110)) = true := by decide +kernel
set_option maxRecDepth 100000 in
theorem zt111 : zl111.all (xchk (xY 111).cls (xY 111).name (xML 111) (xBy 111)) = true := by decide +kernel
set_option maxRecDepth 100000 in
theorem zt112 : zl112.all (xchk (xY 112).cls (xY 112).name (xML 112) (xBy 112)) = true := by decide +kernel
set_option maxRecDepth 100000 in
theorem zt113 : zl113.all (xchk (xY 113).cls (xY 113).name (xML 113) (xBy 113)) = true := by decide +kernel
set_option maxRecDepth 100000 in
theorem zt114 : zl114.all (xchk (xY 114).cls (xY 114).name (xML 114) (xBy 114)) = true := by decide +kernel
set_option maxRecDepth 100000 in
theorem zt115 : zl115.all (xchk (xY 115).cls (xY 115).name (xML 115) (xBy 115)) = true := by decide +kernel
set_option maxRecDepth 100000 in
theorem zt116 : zl116.all (xchk (xY 116).cls (xY 116).name (xML 116) (xBy 116)) = true := by decide +kernel
set_option maxRecDepth 100000 in
theorem zt117 : zl117.all (xchk (xY 117).cls (xY 117).name (xML 117) (xBy 117)) = true := by decide +kernel
