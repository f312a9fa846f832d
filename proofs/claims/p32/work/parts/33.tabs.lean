set_option maxRecDepth 100000 in
theorem xt0 : xTab (xY 0).cls (xY 0).name (xML 0) (xBy 0) (xmeths 0) := xTab_of xi0 rfl (by decide +kernel)
set_option maxRecDepth 100000 in
theorem xt1 : xTab (xY 1).cls (xY 1).name (xML 1) (xBy 1) (xmeths 1) := xTab_of xi1 rfl (by decide +kernel)
set_option maxRecDepth 100000 in
theorem xt2 : xTab (xY 2).cls (xY 2).name (xML 2) (xBy 2) (xmeths 2) := xTab_of xi2 rfl (by decide +kernel)
set_option maxRecDepth 100000 in
theorem xt3 : xTab (xY 3).cls (xY 3).name (xML 3) (xBy 3) (xmeths 3) := xTab_of xi3 rfl (by decide +kernel)
set_option maxRecDepth 100000 in
theorem xt4 : xTab (xY 4).cls (xY 4).name (xML 4) (xBy 4) (xmeths 4) := xTab_of xi4 rfl (by decide +kernel)
set_option maxRecDepth 100000 in
theorem xt5 : xTab (xY 5).cls (xY 5).name (xML 5) (xBy 5) (xmeths 5) := xTab_of xi5 rfl (by decide +kernel)
set_option maxRecDepth 100000 in
theorem xt6 : xTab (xY 6).cls (xY 6).name (xML 6) (xBy 6) (xmeths 6) := xTab_of xi6 rfl (by decide +kernel)
set_option maxRecDepth 100000 in
theorem xt7 : xTab (xY 7).cls (xY 7).name (xML 7) (xBy 7) (xmeths 7) := xTab_of xi7 rfl (by decide +kernel)
set_option maxRecDepth 100000 in
theorem xt8 : xTab (xY 8).cls (xY 8).name (xML 8) (xBy 8) (xmeths 8) := xTab_of xi8 rfl (by decide +kernel)
set_option maxRecDepth 100000 in
theorem xt9 : xTab (xY 9).cls (xY 9).name (xML 9) (xBy 9) (xmeths 9) := xTab_of xi9 rfl (by decide +kernel)
set_option maxRecDepth 100000 in
theorem xt10 : xTab (xY 10).cls (xY 10).name (xML 10) (xBy 10) (xmeths 10) := xTab_of xi10 rfl (by decide +kernel)
set_option maxRecDepth 100000 in
theorem xt11 : xTab (xY 11).cls (xY 11).name (xML 11) (xBy 11) (xmeths 11) := xTab_of xi11 rfl (by decide +kernel)
set_option maxRecDepth 100000 in
theorem xt12 : xTab (xY 12).cls (xY 12).name (xML 12) (xBy 12) (xmeths 12) := xTab_of xi12 rfl (by decide +kernel)
set_option maxRecDepth 100000 in
theorem xt13 : xTab (xY 13).cls (xY 13).name (xML 13) (xBy 13) (xmeths 13) := xTab_of xi13 rfl (by decide +kernel)
set_option maxRecDepth 100000 in
theorem xt14 : xTab (xY 14).cls (xY 14).name (xML 14) (xBy 14) (xmeths 14) := xTab_of xi14 rfl (by decide +kernel)
set_option maxRecDepth 100000 in
theorem xt15 : xTab (xY 15).cls (xY 15).name (xML 15) (xBy 15) (xmeths 15) := xTab_of xi15 rfl (by decide +kernel)
set_option maxRecDepth 100000 in
theorem xt16 : xTab (xY 16).cls (xY 16).name (xML 16) (xBy 16) (xmeths 16) := xTab_of xi16 rfl (by decide +kernel)
set_option maxRecDepth 100000 in
theorem xt17 : xTab (xY 17).cls (xY 17).name (xML 17) (xBy 17) (xmeths 17) := xTab_of xi17 rfl (by decide +kernel)
set_option maxRecDepth 100000 in
theorem xt18 : xTab (xY 18).cls (xY 18).name (xML 18) (xBy 18) (xmeths 18) := xTab_of xi18 rfl (by decide +kernel)
set_option maxRecDepth 100000 in
theorem xt19 : xTab (xY 19).cls (xY 19).name (xML 19) (xBy 19) (xmeths 19) := xTab_of xi19 rfl (by decide +kernel)
set_option maxRecDepth 100000 in
theorem xt20 : xTab (xY 20).cls (xY 20).name (xML 20) (xBy 20) (xmeths 20) := xTab_of xi20 rfl (by decide +kernel)
set_option maxRecDepth 100000 in
theorem xt21 : xTab (xY 21).cls (xY 21).name (xML 21) (xBy 21) (xmeths 21) := xTab_of xi21 rfl (by decide +kernel)
set_option maxRecDepth 100000 in
theorem xt22 : xTab (xY 22).cls (xY 22).name (xML 22) (xBy 22) (xmeths 22) := xTab_of xi22 rfl (by decide +kernel)
set_option maxRecDepth 100000 in
theorem xt23 : xTab (xY 23).cls (xY 23).name (xML 23) (xBy 23) (xmeths 23) := xTab_of xi23 rfl (by decide +kernel)
set_option maxRecDepth 100000 in
theorem xt24 : xTab (xY 24).cls (xY 24).name (xML 24) (xBy 24) (xmeths 24) := xTab_of xi24 rfl (by decide +kernel)
set_option maxRecDepth 100000 in
theorem xt25 : xTab (xY 25).cls (xY 25).name (xML 25) (xBy 25) (xmeths 25) := xTab_of xi25 rfl (by decide +kernel)
set_option maxRecDepth 100000 in
theorem xt26 : xTab (xY 26).cls (xY 26).name (xML 26) (xBy 26) (xmeths 26) := xTab_of xi26 rfl (by decide +kernel)
set_option maxRecDepth 100000 in
theorem xt27 : xTab (xY 27).cls (xY 27).name (xML 27) (xBy 27) (xmeths 27) := xTab_of xi27 rfl (by decide +kernel)
set_option maxRecDepth 100000 in
theorem xt28 : xTab (xY 28).cls (xY 28).name (xML 28) (xBy 28) (xmeths 28) := xTab_of xi28 rfl (by decide +kernel)
set_option maxRecDepth 100000 in
theorem xt29 : xTab (xY 29).cls (xY 29).name (xML 29) (xBy 29) (xmeths 29) := xTab_of xi29 rfl (by decide +kernel)
set_option maxRecDepth 100000 in
theorem xt30 : xTab (xY 30).cls (xY 30).name (xML 30) (xBy 30) (xmeths 30) := xTab_of xi30 rfl (by decide +kernel)
set_option maxRecDepth 100000 in
theorem xt31 : xTab (xY 31).cls (xY 31).name (xML 31) (xBy 31) (xmeths 31) := xTab_of xi31 rfl (by decide +kernel)
set_option maxRecDepth 100000 in
theorem xt32 : xTab (xY 32).cls (xY 32).name (xML 32) (xBy 32) (xmeths 32) := xTab_of xi32 rfl (by decide +kernel)
set_option maxRecDepth 100000 in
theorem xt33 : xTab (xY 33).cls (xY 33).name (xML 33) (xBy 33) (xmeths 33) := xTab_of xi33 rfl (by decide +kernel)
set_option maxRecDepth 100000 in
theorem xt34 : xTab (xY 34).cls (xY 34).name (xML 34) (xBy 34) (xmeths 34) := xTab_of xi34 rfl (by decide +kernel)
set_option maxRecDepth 100000 in
theorem xt35 : xTab (xY 35).cls (xY 35).name (xML 35) (xBy 35) (xmeths 35) := xTab_of xi35 rfl (by decide +kernel)
set_option maxRecDepth 100000 in
theorem xt36 : xTab (xY 36).cls (xY 36).name (xML 36) (xBy 36) (xmeths 36) := xTab_of xi36 rfl (by decide +kernel)
set_option maxRecDepth 100000 in
theorem xt37 : xTab (xY 37).cls (xY 37).name (xML 37) (xBy 37) (xmeths 37) := xTab_of xi37 rfl (by decide +kernel)
set_option maxRecDepth 100000 in
theorem xt38 : xTab (xY 38).cls (xY 38).name (xML 38) (xBy 38) (xmeths 38) := xTab_of xi38 rfl (by decide +kernel)
set_option maxRecDepth 100000 in
theorem xt39 : xTab (xY 39).cls (xY 39).name (xML 39) (xBy 39) (xmeths 39) := xTab_of xi39 rfl (by decide +kernel)
set_option maxRecDepth 100000 in
theorem xt40 : xTab (xY 40).cls (xY 40).name (xML 40) (xBy 40) (xmeths 40) := xTab_of xi40 rfl (by decide +kernel)
set_option maxRecDepth 100000 in
theorem xt41 : xTab (xY 41).cls (xY 41).name (xML 41) (xBy 41) (xmeths 41) := xTab_of xi41 rfl (by decide +kernel)
set_option maxRecDepth 100000 in
theorem xt42 : xTab (xY 42).cls (xY 42).name (xML 42) (xBy 42) (xmeths 42) := xTab_of xi42 rfl (by decide +kernel)
set_option maxRecDepth 100000 in
theorem xt43 : xTab (xY 43).cls (xY 43).name (xML 43) (xBy 43) (xmeths 43) := xTab_of xi43 rfl (by decide +kernel)
set_option maxRecDepth 100000 in
theorem xt44 : xTab (xY 44).cls (xY 44).name (xML 44) (xBy 44) (xmeths 44) := xTab_of xi44 rfl (by decide +kernel)
set_option maxRecDepth 100000 in
theorem xt45 : xTab (xY 45).cls (xY 45).name (xML 45) (xBy 45) (xmeths 45) := xTab_of xi45 rfl (by decide +kernel)
set_option maxRecDepth 100000 in
theorem xt46 : xTab (xY 46).cls (xY 46).name (xML 46) (xBy 46) (xmeths 46) := xTab_of xi46 rfl (by decide +kernel)
set_option maxRecDepth 100000 in
theorem xt47 : xTab (xY 47).cls (xY 47).name (xML 47) (xBy 47) (xmeths 47) := xTab_of xi47 rfl (by decide +kernel)
set_option maxRecDepth 100000 in
theorem xt48 : xTab (xY 48).cls (xY 48).name (xML 48) (xBy 48) (xmeths 48) := xTab_of xi48 rfl (by decide +kernel)
set_option maxRecDepth 100000 in
theorem xt49 : xTab (xY 49).cls (xY 49).name (xML 49) (xBy 49) (xmeths 49) := xTab_of xi49 rfl (by decide +kernel)
set_option maxRecDepth 100000 in
theorem xt50 : xTab (xY 50).cls (xY 50).name (xML 50) (xBy 50) (xmeths 50) := xTab_of xi50 rfl (by decide +kernel)
set_option maxRecDepth 100000 in
theorem xt51 : xTab (xY 51).cls (xY 51).name (xML 51) (xBy 51) (xmeths 51) := xTab_of xi51 rfl (by decide +kernel)
set_option maxRecDepth 100000 in
theorem xt52 : xTab (xY 52).cls (xY 52).name (xML 52) (xBy 52) (xmeths 52) := xTab_of xi52 rfl (by decide +kernel)
set_option maxRecDepth 100000 in
theorem xt53 : xTab (xY 53).cls (xY 53).name (xML 53) (xBy 53) (xmeths 53) := xTab_of xi53 rfl (by decide +kernel)
set_option maxRecDepth 100000 in
theorem xt54 : xTab (xY 54).cls (xY 54).name (xML 54) (xBy 54) (xmeths 54) := xTab_of xi54 rfl (by decide +kernel)
set_option maxRecDepth 100000 in
theorem xt55 : xTab (xY 55).cls (xY 55).name (xML 55) (xBy 55) (xmeths 55) := xTab_of xi55 rfl (by decide +kernel)
set_option maxRecDepth 100000 in
theorem xt56 : xTab (xY 56).cls (xY 56).name (xML 56) (xBy 56) (xmeths 56) := xTab_of xi56 rfl (by decide +kernel)
set_option maxRecDepth 100000 in
theorem xt57 : xTab (xY 57).cls (xY 57).name (xML 57) (xBy 57) (xmeths 57) := xTab_of xi57 rfl (by decide +kernel)
set_option maxRecDepth 100000 in
theorem xt58 : xTab (xY 58).cls (xY 58).name (xML 58) (xBy 58) (xmeths 58) := xTab_of xi58 rfl (by decide +kernel)
set_option maxRecDepth 100000 in
theorem xt59 : xTab (xY 59).cls (xY 59).name (xML 59) (xBy 59) (xmeths 59) := xTab_of xi59 rfl (by decide +kernel)
set_option maxRecDepth 100000 in
theorem xt60 : xTab (xY 60).cls (xY 60).name (xML 60) (xBy 60) (xmeths 60) := xTab_of xi60 rfl (by decide +kernel)
set_option maxRecDepth 100000 in
theorem xt61 : xTab (xY 61).cls (xY 61).name (xML 61) (xBy 61) (xmeths 61) := xTab_of xi61 rfl (by decide +kernel)
set_option maxRecDepth 100000 in
theorem xt62 : xTab (xY 62).cls (xY 62).name (xML 62) (xBy 62) (xmeths 62) := xTab_of xi62 rfl (by decide +kernel)
set_option maxRecDepth 100000 in
theorem xt63 : xTab (xY 63).cls (xY 63).name (xML 63) (xBy 63) (xmeths 63) := xTab_of xi63 rfl (by decide +kernel)
set_option maxRecDepth 100000 in
theorem xt64 : xTab (xY 64).cls (xY 64).name (xML 64) (xBy 64) (xmeths 64) := xTab_of xi64 rfl (by decide +kernel)
set_option maxRecDepth 100000 in
theorem xt65 : xTab (xY 65).cls (xY 65).name (xML 65) (xBy 65) (xmeths 65) := xTab_of xi65 rfl (by decide +kernel)
set_option maxRecDepth 100000 in
theorem xt66 : xTab (xY 66).cls (xY 66).name (xML 66) (xBy 66) (xmeths 66) := xTab_of xi66 rfl (by decide +kernel)
set_option maxRecDepth 100000 in
theorem xt67 : xTab (xY 67).cls (xY 67).name (xML 67) (xBy 67) (xmeths 67) := xTab_of xi67 rfl (by decide +kernel)
set_option maxRecDepth 100000 in
theorem xt68 : xTab (xY 68).cls (xY 68).name (xML 68) (xBy 68) (xmeths 68) := xTab_of xi68 rfl (by decide +kernel)
set_option maxRecDepth 100000 in
theorem xt69 : xTab (xY 69).cls (xY 69).name (xML 69) (xBy 69) (xmeths 69) := xTab_of xi69 rfl (by decide +kernel)
set_option maxRecDepth 100000 in
theorem xt70 : xTab (xY 70).cls (xY 70).name (xML 70) (xBy 70) (xmeths 70) := xTab_of xi70 rfl (by decide +kernel)
set_option maxRecDepth 100000 in
theorem xt71 : xTab (xY 71).cls (xY 71).name (xML 71) (xBy 71) (xmeths 71) := xTab_of xi71 rfl (by decide +kernel)
set_option maxRecDepth 100000 in
theorem xt72 : xTab (xY 72).cls (xY 72).name (xML 72) (xBy 72) (xmeths 72) := xTab_of xi72 rfl (by decide +kernel)
set_option maxRecDepth 100000 in
theorem xt73 : xTab (xY 73).cls (xY 73).name (xML 73) (xBy 73) (xmeths 73) := xTab_of xi73 rfl (by decide +kernel)
set_option maxRecDepth 100000 in
theorem xt74 : xTab (xY 74).cls (xY 74).name (xML 74) (xBy 74) (xmeths 74) := xTab_of xi74 rfl (by decide +kernel)
set_option maxRecDepth 100000 in
theorem xt75 : xTab (xY 75).cls (xY 75).name (xML 75) (xBy 75) (xmeths 75) := xTab_of xi75 rfl (by decide +kernel)
set_option maxRecDepth 100000 in
theorem xt76 : xTab (xY 76).cls (xY 76).name (xML 76) (xBy 76) (xmeths 76) := xTab_of xi76 rfl (by decide +kernel)
set_option maxRecDepth 100000 in
theorem xt77 : xTab (xY 77).cls (xY 77).name (xML 77) (xBy 77) (xmeths 77) := xTab_of xi77 rfl (by decide +kernel)
set_option maxRecDepth 100000 in
theorem xt78 : xTab (xY 78).cls (xY 78).name (xML 78) (xBy 78) (xmeths 78) := xTab_of xi78 rfl (by decide +kernel)
set_option maxRecDepth 100000 in
theorem xt79 : xTab (xY 79).cls (xY 79).name (xML 79) (xBy 79) (xmeths 79) := xTab_of xi79 rfl (by decide +kernel)
set_option maxRecDepth 100000 in
theorem xt80 : xTab (xY 80).cls (xY 80).name (xML 80) (xBy 80) (xmeths 80) := xTab_of xi80 rfl (by decide +kernel)
set_option maxRecDepth 100000 in
theorem xt81 : xTab (xY 81).cls (xY 81).name (xML 81) (xBy 81) (xmeths 81) := xTab_of xi81 rfl (by decide +kernel)
set_option maxRecDepth 100000 in
theorem xt82 : xTab (xY 82).cls (xY 82).name (xML 82) (xBy 82) (xmeths 82) := xTab_of xi82 rfl (by decide +kernel)
set_option maxRecDepth 100000 in
theorem xt83 : xTab (xY 83).cls (xY 83).name (xML 83) (xBy 83) (xmeths 83) := xTab_of xi83 rfl (by decide +kernel)
set_option maxRecDepth 100000 in
theorem xt84 : xTab (xY 84).cls (xY 84).name (xML 84) (xBy 84) (xmeths 84) := xTab_of xi84 rfl (by decide +kernel)
set_option maxRecDepth 100000 in
theorem xt85 : xTab (xY 85).cls (xY 85).name (xML 85) (xBy 85) (xmeths 85) := xTab_of xi85 rfl (by decide +kernel)
set_option maxRecDepth 100000 in
theorem xt86 : xTab (xY 86).cls (xY 86).name (xML 86) (xBy 86) (xmeths 86) := xTab_of xi86 rfl (by decide +kernel)
set_option maxRecDepth 100000 in
theorem xt87 : xTab (xY 87).cls (xY 87).name (xML 87) (xBy 87) (xmeths 87) := xTab_of xi87 rfl (by decide +kernel)
set_option maxRecDepth 100000 in
theorem xt88 : xTab (xY 88).cls (xY 88).name (xML 88) (xBy 88) (xmeths 88) := xTab_of xi88 rfl (by decide +kernel)
set_option maxRecDepth 100000 in
theorem xt89 : xTab (xY 89).cls (xY 89).name (xML 89) (xBy 89) (xmeths 89) := xTab_of xi89 rfl (by decide +kernel)
set_option maxRecDepth 100000 in
theorem xt90 : xTab (xY 90).cls (xY 90).name (xML 90) (xBy 90) (xmeths 90) := xTab_of xi90 rfl (by decide +kernel)
set_option maxRecDepth 100000 in
theorem xt91 : xTab (xY 91).cls (xY 91).name (xML 91) (xBy 91) (xmeths 91) := xTab_of xi91 rfl (by decide +kernel)
set_option maxRecDepth 100000 in
theorem xt92 : xTab (xY 92).cls (xY 92).name (xML 92) (xBy 92) (xmeths 92) := xTab_of xi92 rfl (by decide +kernel)
set_option maxRecDepth 100000 in
theorem xt93 : xTab (xY 93).cls (xY 93).name (xML 93) (xBy 93) (xmeths 93) := xTab_of xi93 rfl (by decide +kernel)
set_option maxRecDepth 100000 in
theorem xt94 : xTab (xY 94).cls (xY 94).name (xML 94) (xBy 94) (xmeths 94) := xTab_of xi94 rfl (by decide +kernel)
set_option maxRecDepth 100000 in
theorem xt95 : xTab (xY 95).cls (xY 95).name (xML 95) (xBy 95) (xmeths 95) := xTab_of xi95 rfl (by decide +kernel)
set_option maxRecDepth 100000 in
theorem xt96 : xTab (xY 96).cls (xY 96).name (xML 96) (xBy 96) (xmeths 96) := xTab_of xi96 rfl (by decide +kernel)
set_option maxRecDepth 100000 in
theorem xt97 : xTab (xY 97).cls (xY 97).name (xML 97) (xBy 97) (xmeths 97) := xTab_of xi97 rfl (by decide +kernel)
set_option maxRecDepth 100000 in
theorem xt98 : xTab (xY 98).cls (xY 98).name (xML 98) (xBy 98) (xmeths 98) := xTab_of xi98 rfl (by decide +kernel)
set_option maxRecDepth 100000 in
theorem xt99 : xTab (xY 99).cls (xY 99).name (xML 99) (xBy 99) (xmeths 99) := xTab_of xi99 rfl (by decide +kernel)
set_option maxRecDepth 100000 in
theorem xt100 : xTab (xY 100).cls (xY 100).name (xML 100) (xBy 100) (xmeths 100) := xTab_of xi100 rfl (by decide +kernel)
set_option maxRecDepth 100000 in
theorem xt101 : xTab (xY 101).cls (xY 101).name (xML 101) (xBy 101) (xmeths 101) := xTab_of xi101 rfl (by decide +kernel)
set_option maxRecDepth 100000 in
theorem xt102 : xTab (xY 102).cls (xY 102).name (xML 102) (xBy 102) (xmeths 102) := xTab_of xi102 rfl (by decide +kernel)
set_option maxRecDepth 100000 in
theorem xt103 : xTab (xY 103).cls (xY 103).name (xML 103) (xBy 103) (xmeths 103) := xTab_of xi103 rfl (by decide +kernel)
set_option maxRecDepth 100000 in
theorem xt104 : xTab (xY 104).cls (xY 104).name (xML 104) (xBy 104) (xmeths 104) := xTab_of xi104 rfl (by decide +kernel)
set_option maxRecDepth 100000 in
theorem xt105 : xTab (xY 105).cls (xY 105).name (xML 105) (xBy 105) (xmeths 105) := xTab_of xi105 rfl (by decide +kernel)
set_option maxRecDepth 100000 in
theorem xt106 : xTab (xY 106).cls (xY 106).name (xML 106) (xBy 106) (xmeths 106) := xTab_of xi106 rfl (by decide +kernel)
set_option maxRecDepth 100000 in
theorem xt107 : xTab (xY 107).cls (xY 107).name (xML 107) (xBy 107) (xmeths 107) := xTab_of xi107 rfl (by decide +kernel)
set_option maxRecDepth 100000 in
theorem xt108 : xTab (xY 108).cls (xY 108).name (xML 108) (xBy 108) (xmeths 108) := xTab_of xi108 rfl (by decide +kernel)
set_option maxRecDepth 100000 in
theorem xt109 : xTab (xY 109).cls (xY 109).name (xML 109) (xBy 109) (xmeths 109) := xTab_of xi109 rfl (by decide +kernel)
set_option maxRecDepth 100000 in
theorem xt110 : xTab (xY 110).cls (xY 110).name (xML 110) (xBy 110) (xmeths 110) := xTab_of xi110 rfl (by decide +kernel)
set_option maxRecDepth 100000 in
theorem xt111 : xTab (xY 111).cls (xY 111).name (xML 111) (xBy 111) (xmeths 111) := xTab_of xi111 rfl (by decide +kernel)
set_option maxRecDepth 100000 in
theorem xt112 : xTab (xY 112).cls (xY 112).name (xML 112) (xBy 112) (xmeths 112) := xTab_of xi112 rfl (by decide +kernel)
set_option maxRecDepth 100000 in
theorem xt113 : xTab (xY 113).cls (xY 113).name (xML 113) (xBy 113) (xmeths 113) := xTab_of xi113 rfl (by decide +kernel)
set_option maxRecDepth 100000 in
theorem xt114 : xTab (xY 114).cls (xY 114).name (xML 114) (xBy 114) (xmeths 114) := xTab_of xi114 rfl (by decide +kernel)
set_option maxRecDepth 100000 in
theorem xt115 : xTab (xY 115).cls (xY 115).name (xML 115) (xBy 115) (xmeths 115) := xTab_of xi115 rfl (by decide +kernel)
set_option maxRecDepth 100000 in
theorem xt116 : xTab (xY 116).cls (xY 116).name (xML 116) (xBy 116) (xmeths 116) := xTab_of xi116 rfl (by decide +kernel)
set_option maxRecDepth 100000 in
theorem xt117 : xTab (xY 117).cls (xY 117).name (xML 117) (xBy 117) (xmeths 117) := xTab_of xi117 rfl (by decide +kernel)
set_option maxRecDepth 100000 in
theorem xt118 : xTab (xY 118).cls (xY 118).name (xML 118) (xBy 118) (xmeths 118) := xTab_of xi118 rfl (by decide +kernel)
set_option maxRecDepth 100000 in
theorem xt119 : xTab (xY 119).cls (xY 119).name (xML 119) (xBy 119) (xmeths 119) := xTab_of xi119 rfl (by decide +kernel)
set_option maxRecDepth 100000 in
theorem xt120 : xTab (xY 120).cls (xY 120).name (xML 120) (xBy 120) (xmeths 120) := xTab_of xi120 rfl (by decide +kernel)
set_option maxRecDepth 100000 in
theorem xt121 : xTab (xY 121).cls (xY 121).name (xML 121) (xBy 121) (xmeths 121) := xTab_of xi121 rfl (by decide +kernel)
set_option maxRecDepth 100000 in
theorem xt122 : xTab (xY 122).cls (xY 122).name (xML 122) (xBy 122) (xmeths 122) := xTab_of xi122 rfl (by decide +kernel)
set_option maxRecDepth 100000 in
theorem xt123 : xTab (xY 123).cls (xY 123).name (xML 123) (xBy 123) (xmeths 123) := xTab_of xi123 rfl (by decide +kernel)
set_option maxRecDepth 100000 in
theorem xt124 : xTab (xY 124).cls (xY 124).name (xML 124) (xBy 124) (xmeths 124) := xTab_of xi124 rfl (by decide +kernel)
set_option maxRecDepth 100000 in
theorem xt125 : xTab (xY 125).cls (xY 125).name (xML 125) (xBy 125) (xmeths 125) := xTab_of xi125 rfl (by decide +kernel)
set_option maxRecDepth 100000 in
theorem xt126 : xTab (xY 126).cls (xY 126).name (xML 126) (xBy 126) (xmeths 126) := xTab_of xi126 rfl (by decide +kernel)
set_option maxRecDepth 100000 in
theorem xt127 : xTab (xY 127).cls (xY 127).name (xML 127) (xBy 127) (xmeths 127) := xTab_of xi127 rfl (by decide +kernel)
set_option maxRecDepth 100000 in
theorem xt128 : xTab (xY 128).cls (xY 128).name (xML 128) (xBy 128) (xmeths 128) := xTab_of xi128 rfl (by decide +kernel)
set_option maxRecDepth 100000 in
theorem xt129 : xTab (xY 129).cls (xY 129).name (xML 129) (xBy 129) (xmeths 129) := xTab_of xi129 rfl (by decide +kernel)
set_option maxRecDepth 100000 in
theorem xt130 : xTab (xY 130).cls (xY 130).name (xML 130) (xBy 130) (xmeths 130) := xTab_of xi130 rfl (by decide +kernel)
set_option maxRecDepth 100000 in
theorem xt131 : xTab RL "law" 17 code xlaw := xTab_of xi131 rfl (by decide +kernel)
