theorem zall_app {α : Type} {f : α → Bool} {a b : List α} (h1 : a.all f = true) (h2 : b.all f = true) : (a ++ b).all f = true := by rw [List.all_append, h1, h2]; rfl
set_option maxRecDepth 100000 in
theorem zt0 : zl0.all (xchk (xY 0).cls (xY 0).name (xML 0) (xBy 0)) = true := by decide +kernel
set_option maxRecDepth 100000 in
theorem zt1 : zl1.all (xchk (xY 1).cls (xY 1).name (xML 1) (xBy 1)) = true := by decide +kernel
set_option maxRecDepth 100000 in
theorem zt2 : zl2.all (xchk (xY 2).cls (xY 2).name (xML 2) (xBy 2)) = true := by decide +kernel
set_option maxRecDepth 100000 in
theorem zt3 : zl3.all (xchk (xY 3).cls (xY 3).name (xML 3) (xBy 3)) = true := by decide +kernel
set_option maxRecDepth 100000 in
theorem zt4 : zl4.all (xchk (xY 4).cls (xY 4).name (xML 4) (xBy 4)) = true := by decide +kernel
set_option maxRecDepth 100000 in
theorem zt5 : zl5.all (xchk (xY 5).cls (xY 5).name (xML 5) (xBy 5)) = true := by decide +kernel
set_option maxRecDepth 100000 in
theorem zt6 : zl6.all (xchk (xY 6).cls (xY 6).name (xML 6) (xBy 6)) = true := by decide +kernel
set_option maxRecDepth 100000 in
theorem zt7 : zl7.all (xchk (xY 7).cls (xY 7).name (xML 7) (xBy 7)) = true := by decide +kernel
set_option maxRecDepth 100000 in
theorem zt8 : zl8.all (xchk (xY 8).cls (xY 8).name (xML 8) (xBy 8)) = true := by decide +kernel
set_option maxRecDepth 100000 in
theorem zt9 : zl9.all (xchk (xY 9).cls (xY 9).name (xML 9) (xBy 9)) = true := by decide +kernel
set_option maxRecDepth 100000 in
theorem zt10 : zl10.all (xchk (xY 10).cls (xY 10).name (xML 10) (xBy 10)) = true := by decide +kernel
set_option maxRecDepth 100000 in
theorem zt11 : zl11.all (xchk (xY 11).cls (xY 11).name (xML 11) (xBy 11)) = true := by decide +kernel
set_option maxRecDepth 100000 in
theorem zt12 : zl12.all (xchk (xY 12).cls (xY 12).name (xML 12) (xBy 12)) = true := by decide +kernel
set_option maxRecDepth 100000 in
theorem zt13 : zl13.all (xchk (xY 13).cls (xY 13).name (xML 13) (xBy 13)) = true := by decide +kernel
set_option maxRecDepth 100000 in
theorem zt14 : zl14.all (xchk (xY 14).cls (xY 14).name (xML 14) (xBy 14)) = true := by decide +kernel
set_option maxRecDepth 100000 in
theorem zt15 : zl15.all (xchk (xY 15).cls (xY 15).name (xML 15) (xBy 15)) = true := by decide +kernel
set_option maxRecDepth 100000 in
theorem zt16 : zl16.all (xchk (xY 16).cls (xY 16).name (xML 16) (xBy 16)) = true := by decide +kernel
set_option maxRecDepth 100000 in
theorem zt17 : zl17.all (xchk (xY 17).cls (xY 17).name (xML 17) (xBy 17)) = true := by decide +kernel
set_option maxRecDepth 100000 in
theorem zt18 : zl18.all (xchk (xY 18).cls (xY 18).name (xML 18) (xBy 18)) = true := by decide +kernel
set_option maxRecDepth 100000 in
theorem zt19 : zl19.all (xchk (xY 19).cls (xY 19).name (xML 19) (xBy 19)) = true := by decide +kernel
set_option maxRecDepth 100000 in
theorem zt20 : zl20.all (xchk (xY 20).cls (xY 20).name (xML 20) (xBy 20)) = true := by decide +kernel
set_option maxRecDepth 100000 in
theorem zt21 : zl21.all (xchk (xY 21).cls (xY 21).name (xML 21) (xBy 21)) = true := by decide +kernel
set_option maxRecDepth 100000 in
theorem zt22 : zl22.all (xchk (xY 22).cls (xY 22).name (xML 22) (xBy 22)) = true := by decide +kernel
set_option maxRecDepth 100000 in
theorem zt23 : zl23.all (xchk (xY 23).cls (xY 23).name (xML 23) (xBy 23)) = true := by decide +kernel
set_option maxRecDepth 100000 in
theorem zt24 : zl24.all (xchk (xY 24).cls (xY 24).name (xML 24) (xBy 24)) = true := by decide +kernel
set_option maxRecDepth 100000 in
theorem zt25_0 : zl25_0.all (xchk (xY 25).cls (xY 25).name (xML 25) (xBy 25)) = true := by decide +kernel
set_option maxRecDepth 100000 in
theorem zt25_1 : zl25_1.all (xchk (xY 25).cls (xY 25).name (xML 25) (xBy 25)) = true := by decide +kernel
theorem zt25 : zl25.all (xchk (xY 25).cls (xY 25).name (xML 25) (xBy 25)) = true := (zall_app zt25_0 zt25_1)
set_option maxRecDepth 100000 in
theorem zt26_0 : zl26_0.all (xchk (xY 26).cls (xY 26).name (xML 26) (xBy 26)) = true := by decide +kernel
set_option maxRecDepth 100000 in
theorem zt26_1 : zl26_1.all (xchk (xY 26).cls (xY 26).name (xML 26) (xBy 26)) = true := by decide +kernel
theorem zt26 : zl26.all (xchk (xY 26).cls (xY 26).name (xML 26) (xBy 26)) = true := (zall_app zt26_0 zt26_1)
set_option maxRecDepth 100000 in
theorem zt27 : zl27.all (xchk (xY 27).cls (xY 27).name (xML 27) (xBy 27)) = true := by decide +kernel
set_option maxRecDepth 100000 in
theorem zt28 : zl28.all (xchk (xY 28).cls (xY 28).name (xML 28) (xBy 28)) = true := by decide +kernel
set_option maxRecDepth 100000 in
theorem zt29 : zl29.all (xchk (xY 29).cls (xY 29).name (xML 29) (xBy 29)) = true := by decide +kernel
set_option maxRecDepth 100000 in
theorem zt30 : zl30.all (xchk (xY 30).cls (xY 30).name (xML 30) (xBy 30)) = true := by decide +kernel
set_option maxRecDepth 100000 in
theorem zt31 : zl31.all (xchk (xY 31).cls (xY 31).name (xML 31) (xBy 31)) = true := by decide +kernel
set_option maxRecDepth 100000 in
theorem zt32 : zl32.all (xchk (xY 32).cls (xY 32).name (xML 32) (xBy 32)) = true := by decide +kernel
set_option maxRecDepth 100000 in
theorem zt33 : zl33.all (xchk (xY 33).cls (xY 33).name (xML 33) (xBy 33)) = true := by decide +kernel
set_option maxRecDepth 100000 in
theorem zt34_0 : zl34_0.all (xchk (xY 34).cls (xY 34).name (xML 34) (xBy 34)) = true := by decide +kernel
set_option maxRecDepth 100000 in
theorem zt34_1 : zl34_1.all (xchk (xY 34).cls (xY 34).name (xML 34) (xBy 34)) = true := by decide +kernel
theorem zt34 : zl34.all (xchk (xY 34).cls (xY 34).name (xML 34) (xBy 34)) = true := (zall_app zt34_0 zt34_1)
set_option maxRecDepth 100000 in
theorem zt35 : zl35.all (xchk (xY 35).cls (xY 35).name (xML 35) (xBy 35)) = true := by decide +kernel
set_option maxRecDepth 100000 in
theorem zt36 : zl36.all (xchk (xY 36).cls (xY 36).name (xML 36) (xBy 36)) = true := by decide +kernel
set_option maxRecDepth 100000 in
theorem zt37_0 : zl37_0.all (xchk (xY 37).cls (xY 37).name (xML 37) (xBy 37)) = true := by decide +kernel
set_option maxRecDepth 100000 in
theorem zt37_1 : zl37_1.all (xchk (xY 37).cls (xY 37).name (xML 37) (xBy 37)) = true := by decide +kernel
theorem zt37 : zl37.all (xchk (xY 37).cls (xY 37).name (xML 37) (xBy 37)) = true := (zall_app zt37_0 zt37_1)
set_option maxRecDepth 100000 in
theorem zt38_0 : zl38_0.all (xchk (xY 38).cls (xY 38).name (xML 38) (xBy 38)) = true := by decide +kernel
set_option maxRecDepth 100000 in
theorem zt38_1 : zl38_1.all (xchk (xY 38).cls (xY 38).name (xML 38) (xBy 38)) = true := by decide +kernel
theorem zt38 : zl38.all (xchk (xY 38).cls (xY 38).name (xML 38) (xBy 38)) = true := (zall_app zt38_0 zt38_1)
set_option maxRecDepth 100000 in
theorem zt39 : zl39.all (xchk (xY 39).cls (xY 39).name (xML 39) (xBy 39)) = true := by decide +kernel
set_option maxRecDepth 100000 in
theorem zt40 : zl40.all (xchk (xY 40).cls (xY 40).name (xML 40) (xBy 40)) = true := by decide +kernel
set_option maxRecDepth 100000 in
theorem zt41_0 : zl41_0.all (xchk (xY 41).cls (xY 41).name (xML 41) (xBy 41)) = true := by decide +kernel
set_option maxRecDepth 100000 in
theorem zt41_1 : zl41_1.all (xchk (xY 41).cls (xY 41).name (xML 41) (xBy 41)) = true := by decide +kernel
theorem zt41 : zl41.all (xchk (xY 41).cls (xY 41).name (xML 41) (xBy 41)) = true := (zall_app zt41_0 zt41_1)
set_option maxRecDepth 100000 in
theorem zt42 : zl42.all (xchk (xY 42).cls (xY 42).name (xML 42) (xBy 42)) = true := by decide +kernel
set_option maxRecDepth 100000 in
theorem zt43_0 : zl43_0.all (xchk (xY 43).cls (xY 43).name (xML 43) (xBy 43)) = true := by decide +kernel
set_option maxRecDepth 100000 in
theorem zt43_1 : zl43_1.all (xchk (xY 43).cls (xY 43).name (xML 43) (xBy 43)) = true := by decide +kernel
theorem zt43 : zl43.all (xchk (xY 43).cls (xY 43).name (xML 43) (xBy 43)) = true := (zall_app zt43_0 zt43_1)
set_option maxRecDepth 100000 in
theorem zt44 : zl44.all (xchk (xY 44).cls (xY 44).name (xML 44) (xBy 44)) = true := by decide +kernel
set_option maxRecDepth 100000 in
theorem zt45 : zl45.all (xchk (xY 45).cls (xY 45).name (xML 45) (xBy 45)) = true := by decide +kernel
set_option maxRecDepth 100000 in
theorem zt46_0 : zl46_0.all (xchk (xY 46).cls (xY 46).name (xML 46) (xBy 46)) = true := by decide +kernel
set_option maxRecDepth 100000 in
theorem zt46_1 : zl46_1.all (xchk (xY 46).cls (xY 46).name (xML 46) (xBy 46)) = true := by decide +kernel
theorem zt46 : zl46.all (xchk (xY 46).cls (xY 46).name (xML 46) (xBy 46)) = true := (zall_app zt46_0 zt46_1)
set_option maxRecDepth 100000 in
theorem zt47 : zl47.all (xchk (xY 47).cls (xY 47).name (xML 47) (xBy 47)) = true := by decide +kernel
set_option maxRecDepth 100000 in
theorem zt48 : zl48.all (xchk (xY 48).cls (xY 48).name (xML 48) (xBy 48)) = true := by decide +kernel
set_option maxRecDepth 100000 in
theorem zt49 : zl49.all (xchk (xY 49).cls (xY 49).name (xML 49) (xBy 49)) = true := by decide +kernel
set_option maxRecDepth 100000 in
theorem zt50_0 : zl50_0.all (xchk (xY 50).cls (xY 50).name (xML 50) (xBy 50)) = true := by decide +kernel
set_option maxRecDepth 100000 in
theorem zt50_1 : zl50_1.all (xchk (xY 50).cls (xY 50).name (xML 50) (xBy 50)) = true := by decide +kernel
theorem zt50 : zl50.all (xchk (xY 50).cls (xY 50).name (xML 50) (xBy 50)) = true := (zall_app zt50_0 zt50_1)
set_option maxRecDepth 100000 in
theorem zt51 : zl51.all (xchk (xY 51).cls (xY 51).name (xML 51) (xBy 51)) = true := by decide +kernel
set_option maxRecDepth 100000 in
theorem zt52 : zl52.all (xchk (xY 52).cls (xY 52).name (xML 52) (xBy 52)) = true := by decide +kernel
set_option maxRecDepth 100000 in
theorem zt53 : zl53.all (xchk (xY 53).cls (xY 53).name (xML 53) (xBy 53)) = true := by decide +kernel
set_option maxRecDepth 100000 in
theorem zt54 : zl54.all (xchk (xY 54).cls (xY 54).name (xML 54) (xBy 54)) = true := by decide +kernel
set_option maxRecDepth 100000 in
theorem zt55_0 : zl55_0.all (xchk (xY 55).cls (xY 55).name (xML 55) (xBy 55)) = true := by decide +kernel
set_option maxRecDepth 100000 in
theorem zt55_1 : zl55_1.all (xchk (xY 55).cls (xY 55).name (xML 55) (xBy 55)) = true := by decide +kernel
theorem zt55 : zl55.all (xchk (xY 55).cls (xY 55).name (xML 55) (xBy 55)) = true := (zall_app zt55_0 zt55_1)
set_option maxRecDepth 100000 in
theorem zt56 : zl56.all (xchk (xY 56).cls (xY 56).name (xML 56) (xBy 56)) = true := by decide +kernel
set_option maxRecDepth 100000 in
theorem zt57 : zl57.all (xchk (xY 57).cls (xY 57).name (xML 57) (xBy 57)) = true := by decide +kernel
set_option maxRecDepth 100000 in
theorem zt58 : zl58.all (xchk (xY 58).cls (xY 58).name (xML 58) (xBy 58)) = true := by decide +kernel
set_option maxRecDepth 100000 in
theorem zt59 : zl59.all (xchk (xY 59).cls (xY 59).name (xML 59) (xBy 59)) = true := by decide +kernel
set_option maxRecDepth 100000 in
theorem zt60 : zl60.all (xchk (xY 60).cls (xY 60).name (xML 60) (xBy 60)) = true := by decide +kernel
set_option maxRecDepth 100000 in
theorem zt61 : zl61.all (xchk (xY 61).cls (xY 61).name (xML 61) (xBy 61)) = true := by decide +kernel
set_option maxRecDepth 100000 in
theorem zt62 : zl62.all (xchk (xY 62).cls (xY 62).name (xML 62) (xBy 62)) = true := by decide +kernel
set_option maxRecDepth 100000 in
theorem zt63 : zl63.all (xchk (xY 63).cls (xY 63).name (xML 63) (xBy 63)) = true := by decide +kernel
set_option maxRecDepth 100000 in
theorem zt64_0 : zl64_0.all (xchk (xY 64).cls (xY 64).name (xML 64) (xBy 64)) = true := by decide +kernel
set_option maxRecDepth 100000 in
theorem zt64_1 : zl64_1.all (xchk (xY 64).cls (xY 64).name (xML 64) (xBy 64)) = true := by decide +kernel
theorem zt64 : zl64.all (xchk (xY 64).cls (xY 64).name (xML 64) (xBy 64)) = true := (zall_app zt64_0 zt64_1)
set_option maxRecDepth 100000 in
theorem zt65 : zl65.all (xchk (xY 65).cls (xY 65).name (xML 65) (xBy 65)) = true := by decide +kernel
set_option maxRecDepth 100000 in
theorem zt66 : zl66.all (xchk (xY 66).cls (xY 66).name (xML 66) (xBy 66)) = true := by decide +kernel
set_option maxRecDepth 100000 in
theorem zt67 : zl67.all (xchk (xY 67).cls (xY 67).name (xML 67) (xBy 67)) = true := by decide +kernel
set_option maxRecDepth 100000 in
theorem zt68 : zl68.all (xchk (xY 68).cls (xY 68).name (xML 68) (xBy 68)) = true := by decide +kernel
set_option maxRecDepth 100000 in
theorem zt69 : zl69.all (xchk (xY 69).cls (xY 69).name (xML 69) (xBy 69)) = true := by decide +kernel
set_option maxRecDepth 100000 in
theorem zt70 : zl70.all (xchk (xY 70).cls (xY 70).name (xML 70) (xBy 70)) = true := by decide +kernel
set_option maxRecDepth 100000 in
theorem zt71 : zl71.all (xchk (xY 71).cls (xY 71).name (xML 71) (xBy 71)) = true := by decide +kernel
set_option maxRecDepth 100000 in
theorem zt72 : zl72.all (xchk (xY 72).cls (xY 72).name (xML 72) (xBy 72)) = true := by decide +kernel
set_option maxRecDepth 100000 in
theorem zt73 : zl73.all (xchk (xY 73).cls (xY 73).name (xML 73) (xBy 73)) = true := by decide +kernel
set_option maxRecDepth 100000 in
theorem zt74 : zl74.all (xchk (xY 74).cls (xY 74).name (xML 74) (xBy 74)) = true := by decide +kernel
set_option maxRecDepth 100000 in
theorem zt75 : zl75.all (xchk (xY 75).cls (xY 75).name (xML 75) (xBy 75)) = true := by decide +kernel
set_option maxRecDepth 100000 in
theorem zt76 : zl76.all (xchk (xY 76).cls (xY 76).name (xML 76) (xBy 76)) = true := by decide +kernel
set_option maxRecDepth 100000 in
theorem zt77 : zl77.all (xchk (xY 77).cls (xY 77).name (xML 77) (xBy 77)) = true := by decide +kernel
set_option maxRecDepth 100000 in
theorem zt78 : zl78.all (xchk (xY 78).cls (xY 78).name (xML 78) (xBy 78)) = true := by decide +kernel
set_option maxRecDepth 100000 in
theorem zt79 : zl79.all (xchk (xY 79).cls (xY 79).name (xML 79) (xBy 79)) = true := by decide +kernel
set_option maxRecDepth 100000 in
theorem zt80 : zl80.all (xchk (xY 80).cls (xY 80).name (xML 80) (xBy 80)) = true := by decide +kernel
set_option maxRecDepth 100000 in
theorem zt81 : zl81.all (xchk (xY 81).cls (xY 81).name (xML 81) (xBy 81)) = true := by decide +kernel
set_option maxRecDepth 100000 in
theorem zt82 : zl82.all (xchk (xY 82).cls (xY 82).name (xML 82) (xBy 82)) = true := by decide +kernel
set_option maxRecDepth 100000 in
theorem zt83 : zl83.all (xchk (xY 83).cls (xY 83).name (xML 83) (xBy 83)) = true := by decide +kernel
set_option maxRecDepth 100000 in
theorem zt84 : zl84.all (xchk (xY 84).cls (xY 84).name (xML 84) (xBy 84)) = true := by decide +kernel
set_option maxRecDepth 100000 in
theorem zt85 : zl85.all (xchk (xY 85).cls (xY 85).name (xML 85) (xBy 85)) = true := by decide +kernel
set_option maxRecDepth 100000 in
theorem zt86 : zl86.all (xchk (xY 86).cls (xY 86).name (xML 86) (xBy 86)) = true := by decide +kernel
set_option maxRecDepth 100000 in
theorem zt87 : zl87.all (xchk (xY 87).cls (xY 87).name (xML 87) (xBy 87)) = true := by decide +kernel
set_option maxRecDepth 100000 in
theorem zt88 : zl88.all (xchk (xY 88).cls (xY 88).name (xML 88) (xBy 88)) = true := by decide +kernel
set_option maxRecDepth 100000 in
theorem zt89 : zl89.all (xchk (xY 89).cls (xY 89).name (xML 89) (xBy 89)) = true := by decide +kernel
set_option maxRecDepth 100000 in
theorem zt90 : zl90.all (xchk (xY 90).cls (xY 90).name (xML 90) (xBy 90)) = true := by decide +kernel
set_option maxRecDepth 100000 in
theorem zt91 : zl91.all (xchk (xY 91).cls (xY 91).name (xML 91) (xBy 91)) = true := by decide +kernel
set_option maxRecDepth 100000 in
theorem zt92 : zl92.all (xchk (xY 92).cls (xY 92).name (xML 92) (xBy 92)) = true := by decide +kernel
set_option maxRecDepth 100000 in
theorem zt93 : zl93.all (xchk (xY 93).cls (xY 93).name (xML 93) (xBy 93)) = true := by decide +kernel
set_option maxRecDepth 100000 in
theorem zt94 : zl94.all (xchk (xY 94).cls (xY 94).name (xML 94) (xBy 94)) = true := by decide +kernel
set_option maxRecDepth 100000 in
theorem zt95 : zl95.all (xchk (xY 95).cls (xY 95).name (xML 95) (xBy 95)) = true := by decide +kernel
set_option maxRecDepth 100000 in
theorem zt96 : zl96.all (xchk (xY 96).cls (xY 96).name (xML 96) (xBy 96)) = true := by decide +kernel
set_option maxRecDepth 100000 in
theorem zt97 : zl97.all (xchk (xY 97).cls (xY 97).name (xML 97) (xBy 97)) = true := by decide +kernel
set_option maxRecDepth 100000 in
theorem zt98 : zl98.all (xchk (xY 98).cls (xY 98).name (xML 98) (xBy 98)) = true := by decide +kernel
set_option maxRecDepth 100000 in
theorem zt99 : zl99.all (xchk (xY 99).cls (xY 99).name (xML 99) (xBy 99)) = true := by decide +kernel
set_option maxRecDepth 100000 in
theorem zt100 : zl100.all (xchk (xY 100).cls (xY 100).name (xML 100) (xBy 100)) = true := by decide +kernel
set_option maxRecDepth 100000 in
theorem zt101 : zl101.all (xchk (xY 101).cls (xY 101).name (xML 101) (xBy 101)) = true := by decide +kernel
set_option maxRecDepth 100000 in
theorem zt102 : zl102.all (xchk (xY 102).cls (xY 102).name (xML 102) (xBy 102)) = true := by decide +kernel
set_option maxRecDepth 100000 in
theorem zt103 : zl103.all (xchk (xY 103).cls (xY 103).name (xML 103) (xBy 103)) = true := by decide +kernel
set_option maxRecDepth 100000 in
theorem zt104 : zl104.all (xchk (xY 104).cls (xY 104).name (xML 104) (xBy 104)) = true := by decide +kernel
set_option maxRecDepth 100000 in
theorem zt105 : zl105.all (xchk (xY 105).cls (xY 105).name (xML 105) (xBy 105)) = true := by decide +kernel
set_option maxRecDepth 100000 in
theorem zt106 : zl106.all (xchk (xY 106).cls (xY 106).name (xML 106) (xBy 106)) = true := by decide +kernel
set_option maxRecDepth 100000 in
theorem zt107 : zl107.all (xchk (xY 107).cls (xY 107).name (xML 107) (xBy 107)) = true := by decide +kernel
set_option maxRecDepth 100000 in
theorem zt108 : zl108.all (xchk (xY 108).cls (xY 108).name (xML 108) (xBy 108)) = true := by decide +kernel
set_option maxRecDepth 100000 in
theorem zt109 : zl109.all (xchk (xY 109).cls (xY 109).name (xML 109) (xBy 109)) = true := by decide +kernel
set_option maxRecDepth 100000 in
theorem zt110 : zl110.all (xchk (xY 110).cls (xY 110).name (xML 110) (xBy 110)) = true := by decide +kernel
set_option maxRecDepth 100000 in
theorem zt111 : zl111.all (xchk (xY 111).cls (xY 111).name (xML 111) (xBy 111)) = true := by decide +kernel
set_option maxRecDepth 100000 in
theorem zt112 : zl112.all (xchk (xY 112).cls (xY 112).name (xML 112) (xBy 112)) = true := by decide +kernel
set_option maxRecDepth 100000 in
theorem zt113 : zl113.all (xchk (xY 113).cls (xY 113).name (xML 113) (xBy 113)) = true := by decide +kernel
set_option maxRecDepth 100000 in
theorem zt114 : zl114.all (xchk (xY 114).cls (xY 114).name (xML 114) (xBy 114)) = true := by decide +kernel
set_option maxRecDepth 100000 in
theorem zt115 : zl115.all (xchk (xY 115).cls (xY 115).name (xML 115) (xBy 115)) = true := by decide +kernel
set_option maxRecDepth 100000 in
theorem zt116 : zl116.all (xchk (xY 116).cls (xY 116).name (xML 116) (xBy 116)) = true := by decide +kernel
set_option maxRecDepth 100000 in
theorem zt117 : zl117.all (xchk (xY 117).cls (xY 117).name (xML 117) (xBy 117)) = true := by decide +kernel
set_option maxRecDepth 100000 in
theorem zt118 : zl118.all (xchk (xY 118).cls (xY 118).name (xML 118) (xBy 118)) = true := by decide +kernel
set_option maxRecDepth 100000 in
theorem zt119 : zl119.all (xchk (xY 119).cls (xY 119).name (xML 119) (xBy 119)) = true := by decide +kernel
set_option maxRecDepth 100000 in
theorem zt120 : zl120.all (xchk (xY 120).cls (xY 120).name (xML 120) (xBy 120)) = true := by decide +kernel
set_option maxRecDepth 100000 in
theorem zt121 : zl121.all (xchk (xY 121).cls (xY 121).name (xML 121) (xBy 121)) = true := by decide +kernel
set_option maxRecDepth 100000 in
theorem zt122 : zl122.all (xchk (xY 122).cls (xY 122).name (xML 122) (xBy 122)) = true := by decide +kernel
set_option maxRecDepth 100000 in
theorem zt123 : zl123.all (xchk (xY 123).cls (xY 123).name (xML 123) (xBy 123)) = true := by decide +kernel
set_option maxRecDepth 100000 in
theorem zt124 : zl124.all (xchk (xY 124).cls (xY 124).name (xML 124) (xBy 124)) = true := by decide +kernel
set_option maxRecDepth 100000 in
theorem zt125 : zl125.all (xchk (xY 125).cls (xY 125).name (xML 125) (xBy 125)) = true := by decide +kernel
set_option maxRecDepth 100000 in
theorem zt126 : zl126.all (xchk (xY 126).cls (xY 126).name (xML 126) (xBy 126)) = true := by decide +kernel
set_option maxRecDepth 100000 in
theorem zt127 : zl127.all (xchk (xY 127).cls (xY 127).name (xML 127) (xBy 127)) = true := by decide +kernel
set_option maxRecDepth 100000 in
theorem zt128_0 : zl128_0.all (xchk (xY 128).cls (xY 128).name (xML 128) (xBy 128)) = true := by decide +kernel
set_option maxRecDepth 100000 in
theorem zt128_1 : zl128_1.all (xchk (xY 128).cls (xY 128).name (xML 128) (xBy 128)) = true := by decide +kernel
set_option maxRecDepth 100000 in
theorem zt128_2 : zl128_2.all (xchk (xY 128).cls (xY 128).name (xML 128) (xBy 128)) = true := by decide +kernel
theorem zt128 : zl128.all (xchk (xY 128).cls (xY 128).name (xML 128) (xBy 128)) = true := (zall_app zt128_0 (zall_app zt128_1 zt128_2))
set_option maxRecDepth 100000 in
theorem zt129_0 : zl129_0.all (xchk (xY 129).cls (xY 129).name (xML 129) (xBy 129)) = true := by decide +kernel
set_option maxRecDepth 100000 in
theorem zt129_1 : zl129_1.all (xchk (xY 129).cls (xY 129).name (xML 129) (xBy 129)) = true := by decide +kernel
theorem zt129 : zl129.all (xchk (xY 129).cls (xY 129).name (xML 129) (xBy 129)) = true := (zall_app zt129_0 zt129_1)
set_option maxRecDepth 100000 in
theorem zt130_0 : zl130_0.all (xchk (xY 130).cls (xY 130).name (xML 130) (xBy 130)) = true := by decide +kernel
set_option maxRecDepth 100000 in
theorem zt130_1 : zl130_1.all (xchk (xY 130).cls (xY 130).name (xML 130) (xBy 130)) = true := by decide +kernel
theorem zt130 : zl130.all (xchk (xY 130).cls (xY 130).name (xML 130) (xBy 130)) = true := (zall_app zt130_0 zt130_1)
set_option maxRecDepth 100000 in
theorem zt131_0 : zl131_0.all (xchk (xY 131).cls (xY 131).name (xML 131) (xBy 131)) = true := by decide +kernel
set_option maxRecDepth 100000 in
theorem zt131_1 : zl131_1.all (xchk (xY 131).cls (xY 131).name (xML 131) (xBy 131)) = true := by decide +kernel
set_option maxRecDepth 100000 in
theorem zt131_2 : zl131_2.all (xchk (xY 131).cls (xY 131).name (xML 131) (xBy 131)) = true := by decide +kernel
set_option maxRecDepth 100000 in
theorem zt131_3 : zl131_3.all (xchk (xY 131).cls (xY 131).name (xML 131) (xBy 131)) = true := by decide +kernel
set_option maxRecDepth 100000 in
theorem zt131_4 : zl131_4.all (xchk (xY 131).cls (xY 131).name (xML 131) (xBy 131)) = true := by decide +kernel
set_option maxRecDepth 100000 in
theorem zt131_5 : zl131_5.all (xchk (xY 131).cls (xY 131).name (xML 131) (xBy 131)) = true := by decide +kernel
set_option maxRecDepth 100000 in
theorem zt131_6 : zl131_6.all (xchk (xY 131).cls (xY 131).name (xML 131) (xBy 131)) = true := by decide +kernel
set_option maxRecDepth 100000 in
theorem zt131_7 : zl131_7.all (xchk (xY 131).cls (xY 131).name (xML 131) (xBy 131)) = true := by decide +kernel
set_option maxRecDepth 100000 in
theorem zt131_8 : zl131_8.all (xchk (xY 131).cls (xY 131).name (xML 131) (xBy 131)) = true := by decide +kernel
theorem zt131 : zl131.all (xchk (xY 131).cls (xY 131).name (xML 131) (xBy 131)) = true := (zall_app zt131_0 (zall_app zt131_1 (zall_app zt131_2 (zall_app zt131_3 (zall_app zt131_4 (zall_app zt131_5 (zall_app zt131_6 (zall_app zt131_7 zt131_8))))))))
theorem ztabs : ∀ i, i < xNM → (zLs.getD i []).all (xchk (xY i).cls (xY i).name (xML i) (xBy i)) = true
  | 0, _ => zt0
  | 1, _ => zt1
  | 2, _ => zt2
  | 3, _ => zt3
  | 4, _ => zt4
  | 5, _ => zt5
  | 6, _ => zt6
  | 7, _ => zt7
  | 8, _ => zt8
  | 9, _ => zt9
  | 10, _ => zt10
  | 11, _ => zt11
  | 12, _ => zt12
  | 13, _ => zt13
  | 14, _ => zt14
  | 15, _ => zt15
  | 16, _ => zt16
  | 17, _ => zt17
  | 18, _ => zt18
  | 19, _ => zt19
  | 20, _ => zt20
  | 21, _ => zt21
  | 22, _ => zt22
  | 23, _ => zt23
  | 24, _ => zt24
  | 25, _ => zt25
  | 26, _ => zt26
  | 27, _ => zt27
  | 28, _ => zt28
  | 29, _ => zt29
  | 30, _ => zt30
  | 31, _ => zt31
  | 32, _ => zt32
  | 33, _ => zt33
  | 34, _ => zt34
  | 35, _ => zt35
  | 36, _ => zt36
  | 37, _ => zt37
  | 38, _ => zt38
  | 39, _ => zt39
  | 40, _ => zt40
  | 41, _ => zt41
  | 42, _ => zt42
  | 43, _ => zt43
  | 44, _ => zt44
  | 45, _ => zt45
  | 46, _ => zt46
  | 47, _ => zt47
  | 48, _ => zt48
  | 49, _ => zt49
  | 50, _ => zt50
  | 51, _ => zt51
  | 52, _ => zt52
  | 53, _ => zt53
  | 54, _ => zt54
  | 55, _ => zt55
  | 56, _ => zt56
  | 57, _ => zt57
  | 58, _ => zt58
  | 59, _ => zt59
  | 60, _ => zt60
  | 61, _ => zt61
  | 62, _ => zt62
  | 63, _ => zt63
  | 64, _ => zt64
  | 65, _ => zt65
  | 66, _ => zt66
  | 67, _ => zt67
  | 68, _ => zt68
  | 69, _ => zt69
  | 70, _ => zt70
  | 71, _ => zt71
  | 72, _ => zt72
  | 73, _ => zt73
  | 74, _ => zt74
  | 75, _ => zt75
  | 76, _ => zt76
  | 77, _ => zt77
  | 78, _ => zt78
  | 79, _ => zt79
  | 80, _ => zt80
  | 81, _ => zt81
  | 82, _ => zt82
  | 83, _ => zt83
  | 84, _ => zt84
  | 85, _ => zt85
  | 86, _ => zt86
  | 87, _ => zt87
  | 88, _ => zt88
  | 89, _ => zt89
  | 90, _ => zt90
  | 91, _ => zt91
  | 92, _ => zt92
  | 93, _ => zt93
  | 94, _ => zt94
  | 95, _ => zt95
  | 96, _ => zt96
  | 97, _ => zt97
  | 98, _ => zt98
  | 99, _ => zt99
  | 100, _ => zt100
  | 101, _ => zt101
  | 102, _ => zt102
  | 103, _ => zt103
  | 104, _ => zt104
  | 105, _ => zt105
  | 106, _ => zt106
  | 107, _ => zt107
  | 108, _ => zt108
  | 109, _ => zt109
  | 110, _ => zt110
  | 111, _ => zt111
  | 112, _ => zt112
  | 113, _ => zt113
  | 114, _ => zt114
  | 115, _ => zt115
  | 116, _ => zt116
  | 117, _ => zt117
  | 118, _ => zt118
  | 119, _ => zt119
  | 120, _ => zt120
  | 121, _ => zt121
  | 122, _ => zt122
  | 123, _ => zt123
  | 124, _ => zt124
  | 125, _ => zt125
  | 126, _ => zt126
  | 127, _ => zt127
  | 128, _ => zt128
  | 129, _ => zt129
  | 130, _ => zt130
  | 131, _ => zt131
  | n + 132, h => absurd h (by show ¬ n + 132 < 132; omega)
