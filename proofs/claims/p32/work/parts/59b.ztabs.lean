set_option maxRecDepth 100000 in
theorem zt30 : zl30.all (xchk (xY 30).cls (xY 30).name (xML 30) (xBy 30)) = true := by decide +kernel
set_option maxRecDepth 100000 in
theorem zt31 : zl31.all (xchk (xY 31).cls (xY 31).name (xML 31) (xBy 31)) = true := by decide +kernel
set_option maxRecDepth 100000 in
theorem zt32 : zl32.all (xchk (xY 32).cls (xY 32).name (xML 32) (xBy 32)) = true := by decide +kernel
set_option maxRecDepth 100000 in
theorem zt33 : zl33.all (xchk (xY 33).cls (xY 33).name (xML 33) (xBy 33)) = true := by decide +kernel
set_option maxRecDepth 100000 in
theorem zt34_0 : zl34_0.all (xchk (xY 34).cls (xY 34).name (xML 34) (xBy 34)) = true := by decide +kernel
set_option maxRecDepth 100000 in
theorem zt34_1 : zl34_1.all (xchk (xY 34).cls (xY 34).name (xML 34) (xBy 34)) = true := by decide +kernel
theorem zt34 : zl34.all (xchk (xY 34).cls (xY 34).name (xML 34) (xBy 34)) = true := (zall_app zt34_0 zt34_1)
set_option maxRecDepth 100000 in
theorem zt35 : zl35.all (xchk (xY 35).cls (xY 35).name (xML 35) (xBy 35)) = true := by decide +kernel
set_option maxRecDepth 100000 in
theorem zt36 : zl36.all (xchk (xY 36).cls (xY 36).name (xML 36) (xBy 36)) = true := by decide +kernel
set_option maxRecDepth 100000 in
theorem zt37_0 : zl37_0.all (xchk (xY 37).cls (xY 37).name (xML 37) (xBy 37)) = true := by decide +kernel
set_option maxRecDepth 100000 in
theorem zt37_1 : zl37_1.all (xchk (xY 37).cls (xY 37).name (xML 37) (xBy 37)) = true := by decide +kernel
theorem zt37 : zl37.all (xchk (xY 37).cls (xY 37).name (xML 37) (xBy 37)) = true := (zall_app zt37_0 zt37_1)
set_option maxRecDepth 100000 in
theorem zt38_0 : zl38_0.all (xchk (xY 38).cls (xY 38).name (xML 38) (xBy 38)) = true := by decide +kernel
set_option maxRecDepth 100000 in
theorem zt38_1 : zl38_1.all (xchk (xY 38).cls (xY 38).name (xML 38) (xBy 38)) = true := by decide +kernel
theorem zt38 : zl38.all (xchk (xY 38).cls (xY 38).name (xML 38) (xBy 38)) = true := (zall_app zt38_0 zt38_1)
set_option maxRecDepth 100000 in
theorem zt39 : zl39.all (xchk (xY 39).cls (xY 39).name (xML 39) (xBy 39)) = true := by decide +kernel
set_option maxRecDepth 100000 in
theorem zt40 : zl40.all (xchk (xY 40).cls (xY 40).name (xML 40) (xBy 40)) = true := by decide +kernel
set_option maxRecDepth 100000 in
theorem zt41_0 : zl41_0.all (xchk (xY 41).cls (xY 41).name (xML 41) (xBy 41)) = true := by decide +kernel
set_option maxRecDepth 100000 in
theorem zt41_1 : zl41_1.all (xchk (xY 41).cls (xY 41).name (xML 41) (xBy 41)) = true := by decide +kernel
theorem zt41 : zl41.all (xchk (xY 41).cls (xY 41).name (xML 41) (xBy 41)) = true := (zall_app zt41_0 zt41_1)
set_option maxRecDepth 100000 in
theorem zt42 : zl42.all (xchk (xY 42).cls (xY 42).name (xML 42) (xBy 42)) = true := by decide +kernel
set_option maxRecDepth 100000 in
theorem zt43_0 : zl43_0.all (xchk (xY 43).cls (xY 43).name (xML 43) (xBy 43)) = true := by decide +kernel
set_option maxRecDepth 100000 in
theorem zt43_1 : zl43_1.all (xchk (xY 43).cls (xY 43).name (xML 43) (xBy 43)) = true := by decide +kernel
theorem zt43 : zl43.all (xchk (xY 43).cls (xY 43).name (xML 43) (xBy 43)) = true := (zall_app zt43_0 zt43_1)
set_option maxRecDepth 100000 in
theorem zt44 : zl44.all (xchk (xY 44).cls (xY 44).name (xML 44) (xBy 44)) = true := by decide +kernel
set_option maxRecDepth 100000 in
theorem zt45 : zl45.all (xchk (xY 45).cls (xY 45).name (xML 45) (xBy 45)) = true := by decide +kernel
set_option maxRecDepth 100000 in
theorem zt46_0 : zl46_0.all (xchk (xY 46).cls (xY 46).name (xML 46) (xBy 46)) = true := by decide +kernel
set_option maxRecDepth 100000 in
theorem zt46_1 : zl46_1.all (xchk (xY 46).cls (xY 46).name (xML 46) (xBy 46)) = true := by decide +kernel
theorem zt46 : zl46.all (xchk (xY 46).cls (xY 46).name (xML 46) (xBy 46)) = true := (zall_app zt46_0 zt46_1)
set_option maxRecDepth 100000 in
theorem zt47 : zl47.all (xchk (xY 47).cls (xY 47).name (xML 47) (xBy 47)) = true := by decide +kernel
set_option maxRecDepth 100000 in
theorem zt48 : zl48.all (xchk (xY 48).cls (xY 48).name (xML 48) (xBy 48)) = true := by decide +kernel
set_option maxRecDepth 100000 in
theorem zt49 : zl49.all (xchk (xY 49).cls (xY 49).name (xML 49) (xBy 49)) = true := by decide +kernel
set_option maxRecDepth 100000 in
theorem zt50_0 : zl50_0.all (xchk (xY 50).cls (xY 50).name (xML 50) (xBy 50)) = true := by decide +kernel
set_option maxRecDepth 100000 in
theorem zt50_1 : zl50_1.all (xchk (xY 50).cls (xY 50).name (xML 50) (xBy 50)) = true := by decide +kernel
theorem zt50 : zl50.all (xchk (xY 50).cls (xY 50).name (xML 50) (xBy 50)) = true := (zall_app zt50_0 zt50_1)
set_option maxRecDepth 100000 in
theorem zt51 : zl51.all (xchk (xY 51).cls (xY 51).name (xML 51) (xBy 51)) = true := by decide +kernel
set_option maxRecDepth 100000 in
theorem zt52 : zl52.all (xchk (xY 52).cls (xY 52).name (xML 52) (xBy 52)) = true := by decide +kernel
set_option maxRecDepth 100000 in
theorem zt53 : zl53.all (xchk (xY 53).cls (xY 53).name (xML 53) (xBy 53)) = true := by decide +kernel
set_option maxRecDepth 100000 in
theorem zt54 : zl54.all (xchk (xY 54).cls (xY 54).name (xML 54) (xBy 54)) = true := by decide +kernel
set_option maxRecDepth 100000 in
theorem zt55_0 : zl55_0.all (xchk (xY 55).cls (xY 55).name (xML 55) (xBy 55)) = true := by decide +kernel
set_option maxRecDepth 100000 in
theorem zt55_1 : zl55_1.all (xchk (xY 55).cls (xY 55).name (xML 55) (xBy 55)) = true := by decide +kernel
theorem zt55 : zl55.all (xchk (xY 55).cls (xY 55).name (xML 55) (xBy 55)) = true := (zall_app zt55_0 zt55_1)
set_option maxRecDepth 100000 in
theorem zt56 : zl56.all (xchk (xY 56).cls (xY 56).name (xML 56) (xBy 56)) = true := by decide +kernel
set_option maxRecDepth 100000 in
theorem zt57 : zl57.all (xchk (xY 57).cls (xY 57).name (xML 57) (xBy 57)) = true := by decide +kernel
set_option maxRecDepth 100000 in
theorem zt58 : zl58.all (xchk (xY 58).cls (xY 58).name (xML 58) (xBy 58)) = true := by decide +kernel
set_option maxRecDepth 100000 in
theorem zt59 : zl59.all (xchk (xY 59).cls (xY 59).name (xML 59) (xBy 59)) = true := by decide +kernel
