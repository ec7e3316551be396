/-! the methods' own words -/
abbrev am_law : Nat := 207
set_option maxRecDepth 20000 in
theorem am_c0 : lw_tbl[289]? = some (.code (am_mn 0) (am_by 0) (am_ml 0) (am_rt 0)) := rfl
set_option maxRecDepth 20000 in
theorem am_c1 : lw_tbl[1019]? = some (.code (am_mn 1) (am_by 1) (am_ml 1) (am_rt 1)) := rfl
set_option maxRecDepth 20000 in
theorem am_c2 : lw_tbl[963]? = some (.code (am_mn 2) (am_by 2) (am_ml 2) (am_rt 2)) := rfl
set_option maxRecDepth 20000 in
theorem am_c3 : lw_tbl[967]? = some (.code (am_mn 3) (am_by 3) (am_ml 3) (am_rt 3)) := rfl
set_option maxRecDepth 20000 in
theorem am_c4 : lw_tbl[972]? = some (.code (am_mn 4) (am_by 4) (am_ml 4) (am_rt 4)) := rfl
set_option maxRecDepth 20000 in
theorem am_c5 : lw_tbl[984]? = some (.code (am_mn 5) (am_by 5) (am_ml 5) (am_rt 5)) := rfl
set_option maxRecDepth 20000 in
theorem am_c6 : lw_tbl[989]? = some (.code (am_mn 6) (am_by 6) (am_ml 6) (am_rt 6)) := rfl
set_option maxRecDepth 20000 in
theorem am_c7 : lw_tbl[1001]? = some (.code (am_mn 7) (am_by 7) (am_ml 7) (am_rt 7)) := rfl
set_option maxRecDepth 20000 in
theorem am_c8 : lw_tbl[125]? = some (.code (am_mn 8) (am_by 8) (am_ml 8) (am_rt 8)) := rfl
set_option maxRecDepth 20000 in
theorem am_c9 : lw_tbl[537]? = some (.code (am_mn 9) (am_by 9) (am_ml 9) (am_rt 9)) := rfl
set_option maxRecDepth 20000 in
theorem am_c10 : lw_tbl[533]? = some (.code (am_mn 10) (am_by 10) (am_ml 10) (am_rt 10)) := rfl
set_option maxRecDepth 20000 in
theorem am_c11 : lw_tbl[739]? = some (.code (am_mn 11) (am_by 11) (am_ml 11) (am_rt 11)) := rfl
set_option maxRecDepth 20000 in
theorem am_c12 : lw_tbl[603]? = some (.code (am_mn 12) (am_by 12) (am_ml 12) (am_rt 12)) := rfl
set_option maxRecDepth 20000 in
theorem am_c13 : lw_tbl[545]? = some (.code (am_mn 13) (am_by 13) (am_ml 13) (am_rt 13)) := rfl
set_option maxRecDepth 20000 in
theorem am_c14 : lw_tbl[510]? = some (.code (am_mn 14) (am_by 14) (am_ml 14) (am_rt 14)) := rfl
set_option maxRecDepth 20000 in
theorem am_c15 : lw_tbl[506]? = some (.code (am_mn 15) (am_by 15) (am_ml 15) (am_rt 15)) := rfl
set_option maxRecDepth 20000 in
theorem am_c16 : lw_tbl[686]? = some (.code (am_mn 16) (am_by 16) (am_ml 16) (am_rt 16)) := rfl
set_option maxRecDepth 20000 in
theorem am_c17 : lw_tbl[661]? = some (.code (am_mn 17) (am_by 17) (am_ml 17) (am_rt 17)) := rfl
set_option maxRecDepth 20000 in
theorem am_c18 : lw_tbl[541]? = some (.code (am_mn 18) (am_by 18) (am_ml 18) (am_rt 18)) := rfl
set_option maxRecDepth 20000 in
theorem am_c19 : lw_tbl[1010]? = some (.code (am_mn 19) (am_by 19) (am_ml 19) (am_rt 19)) := rfl
set_option maxRecDepth 20000 in
theorem am_c20 : lw_tbl[1014]? = some (.code (am_mn 20) (am_by 20) (am_ml 20) (am_rt 20)) := rfl
set_option maxRecDepth 20000 in
theorem am_c21 : lw_tbl[1005]? = some (.code (am_mn 21) (am_by 21) (am_ml 21) (am_rt 21)) := rfl
set_option maxRecDepth 20000 in
theorem am_c22 : lw_tbl[682]? = some (.code (am_mn 22) (am_by 22) (am_ml 22) (am_rt 22)) := rfl
set_option maxRecDepth 20000 in
theorem am_c23 : lw_tbl[666]? = some (.code (am_mn 23) (am_by 23) (am_ml 23) (am_rt 23)) := rfl
set_option maxRecDepth 20000 in
theorem am_c24 : lw_tbl[776]? = some (.code (am_mn 24) (am_by 24) (am_ml 24) (am_rt 24)) := rfl
set_option maxRecDepth 20000 in
theorem am_c25 : lw_tbl[771]? = some (.code (am_mn 25) (am_by 25) (am_ml 25) (am_rt 25)) := rfl
set_option maxRecDepth 20000 in
theorem am_c26 : lw_tbl[218]? = some (.code (am_mn 26) (am_by 26) (am_ml 26) (am_rt 26)) := rfl
set_option maxRecDepth 20000 in
theorem am_c27 : lw_tbl[942]? = some (.code (am_mn 27) (am_by 27) (am_ml 27) (am_rt 27)) := rfl
set_option maxRecDepth 20000 in
theorem am_c28 : lw_tbl[902]? = some (.code (am_mn 28) (am_by 28) (am_ml 28) (am_rt 28)) := rfl
set_option maxRecDepth 20000 in
theorem am_c29 : lw_tbl[946]? = some (.code (am_mn 29) (am_by 29) (am_ml 29) (am_rt 29)) := rfl
set_option maxRecDepth 20000 in
theorem am_c30 : lw_tbl[950]? = some (.code (am_mn 30) (am_by 30) (am_ml 30) (am_rt 30)) := rfl
set_option maxRecDepth 20000 in
theorem am_c31 : lw_tbl[923]? = some (.code (am_mn 31) (am_by 31) (am_ml 31) (am_rt 31)) := rfl
set_option maxRecDepth 20000 in
theorem am_c32 : lw_tbl[930]? = some (.code (am_mn 32) (am_by 32) (am_ml 32) (am_rt 32)) := rfl
set_option maxRecDepth 20000 in
theorem am_c33 : lw_tbl[955]? = some (.code (am_mn 33) (am_by 33) (am_ml 33) (am_rt 33)) := rfl
set_option maxRecDepth 20000 in
theorem am_c34 : lw_tbl[910]? = some (.code (am_mn 34) (am_by 34) (am_ml 34) (am_rt 34)) := rfl
set_option maxRecDepth 20000 in
theorem am_c35 : lw_tbl[936]? = some (.code (am_mn 35) (am_by 35) (am_ml 35) (am_rt 35)) := rfl
set_option maxRecDepth 20000 in
theorem am_c36 : lw_tbl[369]? = some (.code (am_mn 36) (am_by 36) (am_ml 36) (am_rt 36)) := rfl
set_option maxRecDepth 20000 in
theorem am_c37 : lw_tbl[587]? = some (.code (am_mn 37) (am_by 37) (am_ml 37) (am_rt 37)) := rfl
set_option maxRecDepth 20000 in
theorem am_c38 : lw_tbl[620]? = some (.code (am_mn 38) (am_by 38) (am_ml 38) (am_rt 38)) := rfl
set_option maxRecDepth 20000 in
theorem am_c39 : lw_tbl[628]? = some (.code (am_mn 39) (am_by 39) (am_ml 39) (am_rt 39)) := rfl
set_option maxRecDepth 20000 in
theorem am_c40 : lw_tbl[640]? = some (.code (am_mn 40) (am_by 40) (am_ml 40) (am_rt 40)) := rfl
set_option maxRecDepth 20000 in
theorem am_c41 : lw_tbl[757]? = some (.code (am_mn 41) (am_by 41) (am_ml 41) (am_rt 41)) := rfl
set_option maxRecDepth 20000 in
theorem am_c42 : lw_tbl[591]? = some (.code (am_mn 42) (am_by 42) (am_ml 42) (am_rt 42)) := rfl
set_option maxRecDepth 20000 in
theorem am_c43 : lw_tbl[608]? = some (.code (am_mn 43) (am_by 43) (am_ml 43) (am_rt 43)) := rfl
set_option maxRecDepth 20000 in
theorem am_c44 : lw_tbl[616]? = some (.code (am_mn 44) (am_by 44) (am_ml 44) (am_rt 44)) := rfl
set_option maxRecDepth 20000 in
theorem am_c45 : lw_tbl[612]? = some (.code (am_mn 45) (am_by 45) (am_ml 45) (am_rt 45)) := rfl
set_option maxRecDepth 20000 in
theorem am_c46 : lw_tbl[317]? = some (.code (am_mn 46) (am_by 46) (am_ml 46) (am_rt 46)) := rfl
set_option maxRecDepth 20000 in
theorem am_c47 : lw_tbl[997]? = some (.code (am_mn 47) (am_by 47) (am_ml 47) (am_rt 47)) := rfl
set_option maxRecDepth 20000 in
theorem am_c48 : lw_tbl[1072]? = some (.code (am_mn 48) (am_by 48) (am_ml 48) (am_rt 48)) := rfl
set_option maxRecDepth 20000 in
theorem am_c49 : lw_tbl[432]? = some (.code (am_mn 49) (am_by 49) (am_ml 49) (am_rt 49)) := rfl
set_option maxRecDepth 20000 in
theorem am_c50 : lw_tbl[1080]? = some (.code (am_mn 50) (am_by 50) (am_ml 50) (am_rt 50)) := rfl
set_option maxRecDepth 20000 in
theorem am_c51 : lw_tbl[1087]? = some (.code (am_mn 51) (am_by 51) (am_ml 51) (am_rt 51)) := rfl
set_option maxRecDepth 20000 in
theorem am_c52 : lw_tbl[1090]? = some (.code (am_mn 52) (am_by 52) (am_ml 52) (am_rt 52)) := rfl
set_option maxRecDepth 20000 in
theorem am_c53 : lw_tbl[153]? = some (.code (am_mn 53) (am_by 53) (am_ml 53) (am_rt 53)) := rfl
set_option maxRecDepth 20000 in
theorem am_c54 : lw_tbl[829]? = some (.code (am_mn 54) (am_by 54) (am_ml 54) (am_rt 54)) := rfl
set_option maxRecDepth 20000 in
theorem am_c55 : lw_tbl[876]? = some (.code (am_mn 55) (am_by 55) (am_ml 55) (am_rt 55)) := rfl
set_option maxRecDepth 20000 in
theorem am_c56 : lw_tbl[888]? = some (.code (am_mn 56) (am_by 56) (am_ml 56) (am_rt 56)) := rfl
set_option maxRecDepth 20000 in
theorem am_c57 : lw_tbl[898]? = some (.code (am_mn 57) (am_by 57) (am_ml 57) (am_rt 57)) := rfl
set_option maxRecDepth 20000 in
theorem am_c58 : lw_tbl[980]? = some (.code (am_mn 58) (am_by 58) (am_ml 58) (am_rt 58)) := rfl
set_option maxRecDepth 20000 in
theorem am_c59 : lw_tbl[976]? = some (.code (am_mn 59) (am_by 59) (am_ml 59) (am_rt 59)) := rfl
set_option maxRecDepth 20000 in
theorem am_c60 : lw_tbl[1031]? = some (.code (am_mn 60) (am_by 60) (am_ml 60) (am_rt 60)) := rfl
set_option maxRecDepth 20000 in
theorem am_c61 : lw_tbl[1048]? = some (.code (am_mn 61) (am_by 61) (am_ml 61) (am_rt 61)) := rfl
set_option maxRecDepth 20000 in
theorem am_c62 : lw_tbl[1056]? = some (.code (am_mn 62) (am_by 62) (am_ml 62) (am_rt 62)) := rfl
set_option maxRecDepth 20000 in
theorem am_c63 : lw_tbl[1040]? = some (.code (am_mn 63) (am_by 63) (am_ml 63) (am_rt 63)) := rfl
set_option maxRecDepth 20000 in
theorem am_c64 : lw_tbl[419]? = some (.code (am_mn 64) (am_by 64) (am_ml 64) (am_rt 64)) := rfl
set_option maxRecDepth 20000 in
theorem am_c65 : lw_tbl[652]? = some (.code (am_mn 65) (am_by 65) (am_ml 65) (am_rt 65)) := rfl
set_option maxRecDepth 20000 in
theorem am_c66 : lw_tbl[752]? = some (.code (am_mn 66) (am_by 66) (am_ml 66) (am_rt 66)) := rfl
set_option maxRecDepth 20000 in
theorem am_c67 : lw_tbl[785]? = some (.code (am_mn 67) (am_by 67) (am_ml 67) (am_rt 67)) := rfl
set_option maxRecDepth 20000 in
theorem am_c68 : lw_tbl[799]? = some (.code (am_mn 68) (am_by 68) (am_ml 68) (am_rt 68)) := rfl
set_option maxRecDepth 20000 in
theorem am_c69 : lw_tbl[794]? = some (.code (am_mn 69) (am_by 69) (am_ml 69) (am_rt 69)) := rfl
set_option maxRecDepth 20000 in
theorem am_c70 : lw_tbl[657]? = some (.code (am_mn 70) (am_by 70) (am_ml 70) (am_rt 70)) := rfl
set_option maxRecDepth 20000 in
theorem am_c71 : lw_tbl[761]? = some (.code (am_mn 71) (am_by 71) (am_ml 71) (am_rt 71)) := rfl
set_option maxRecDepth 20000 in
theorem am_c72 : lw_tbl[767]? = some (.code (am_mn 72) (am_by 72) (am_ml 72) (am_rt 72)) := rfl
set_option maxRecDepth 20000 in
theorem am_c73 : lw_tbl[673]? = some (.code (am_mn 73) (am_by 73) (am_ml 73) (am_rt 73)) := rfl
set_option maxRecDepth 20000 in
theorem am_c74 : lw_tbl[748]? = some (.code (am_mn 74) (am_by 74) (am_ml 74) (am_rt 74)) := rfl
set_option maxRecDepth 20000 in
theorem am_c75 : lw_tbl[677]? = some (.code (am_mn 75) (am_by 75) (am_ml 75) (am_rt 75)) := rfl
set_option maxRecDepth 20000 in
theorem am_c76 : lw_tbl[224]? = some (.code (am_mn 76) (am_by 76) (am_ml 76) (am_rt 76)) := rfl
set_option maxRecDepth 20000 in
theorem am_c77 : lw_tbl[825]? = some (.code (am_mn 77) (am_by 77) (am_ml 77) (am_rt 77)) := rfl
set_option maxRecDepth 20000 in
theorem am_c78 : lw_tbl[833]? = some (.code (am_mn 78) (am_by 78) (am_ml 78) (am_rt 78)) := rfl
set_option maxRecDepth 20000 in
theorem am_c79 : lw_tbl[841]? = some (.code (am_mn 79) (am_by 79) (am_ml 79) (am_rt 79)) := rfl
set_option maxRecDepth 20000 in
theorem am_c80 : lw_tbl[847]? = some (.code (am_mn 80) (am_by 80) (am_ml 80) (am_rt 80)) := rfl
set_option maxRecDepth 20000 in
theorem am_c81 : lw_tbl[884]? = some (.code (am_mn 81) (am_by 81) (am_ml 81) (am_rt 81)) := rfl
set_option maxRecDepth 20000 in
theorem am_c82 : lw_tbl[892]? = some (.code (am_mn 82) (am_by 82) (am_ml 82) (am_rt 82)) := rfl
set_option maxRecDepth 20000 in
theorem am_c83 : lw_tbl[868]? = some (.code (am_mn 83) (am_by 83) (am_ml 83) (am_rt 83)) := rfl
set_option maxRecDepth 20000 in
theorem am_c84 : lw_tbl[916]? = some (.code (am_mn 84) (am_by 84) (am_ml 84) (am_rt 84)) := rfl
set_option maxRecDepth 20000 in
theorem am_c85 : lw_tbl[851]? = some (.code (am_mn 85) (am_by 85) (am_ml 85) (am_rt 85)) := rfl
set_option maxRecDepth 20000 in
theorem am_c86 : lw_tbl[337]? = some (.code (am_mn 86) (am_by 86) (am_ml 86) (am_rt 86)) := rfl
set_option maxRecDepth 20000 in
theorem am_c87 : lw_tbl[526]? = some (.code (am_mn 87) (am_by 87) (am_ml 87) (am_rt 87)) := rfl
set_option maxRecDepth 20000 in
theorem am_c88 : lw_tbl[599]? = some (.code (am_mn 88) (am_by 88) (am_ml 88) (am_rt 88)) := rfl
set_option maxRecDepth 20000 in
theorem am_c89 : lw_tbl[789]? = some (.code (am_mn 89) (am_by 89) (am_ml 89) (am_rt 89)) := rfl
set_option maxRecDepth 20000 in
theorem am_c90 : lw_tbl[993]? = some (.code (am_mn 90) (am_by 90) (am_ml 90) (am_rt 90)) := rfl
set_option maxRecDepth 20000 in
theorem am_c91 : lw_tbl[595]? = some (.code (am_mn 91) (am_by 91) (am_ml 91) (am_rt 91)) := rfl
set_option maxRecDepth 20000 in
theorem am_c92 : lw_tbl[529]? = some (.code (am_mn 92) (am_by 92) (am_ml 92) (am_rt 92)) := rfl
set_option maxRecDepth 20000 in
theorem am_c93 : lw_tbl[552]? = some (.code (am_mn 93) (am_by 93) (am_ml 93) (am_rt 93)) := rfl
set_option maxRecDepth 20000 in
theorem am_c94 : lw_tbl[265]? = some (.code (am_mn 94) (am_by 94) (am_ml 94) (am_rt 94)) := rfl
set_option maxRecDepth 20000 in
theorem am_c95 : lw_tbl[821]? = some (.code (am_mn 95) (am_by 95) (am_ml 95) (am_rt 95)) := rfl
set_option maxRecDepth 20000 in
theorem am_c96 : lw_tbl[837]? = some (.code (am_mn 96) (am_by 96) (am_ml 96) (am_rt 96)) := rfl
set_option maxRecDepth 20000 in
theorem am_c97 : lw_tbl[859]? = some (.code (am_mn 97) (am_by 97) (am_ml 97) (am_rt 97)) := rfl
set_option maxRecDepth 20000 in
theorem am_c98 : lw_tbl[864]? = some (.code (am_mn 98) (am_by 98) (am_ml 98) (am_rt 98)) := rfl
set_option maxRecDepth 20000 in
theorem am_c99 : lw_tbl[880]? = some (.code (am_mn 99) (am_by 99) (am_ml 99) (am_rt 99)) := rfl
set_option maxRecDepth 20000 in
theorem am_c100 : lw_tbl[115]? = some (.code (am_mn 100) (am_by 100) (am_ml 100) (am_rt 100)) := rfl
set_option maxRecDepth 20000 in
theorem am_c101 : lw_tbl[502]? = some (.code (am_mn 101) (am_by 101) (am_ml 101) (am_rt 101)) := rfl
set_option maxRecDepth 20000 in
theorem am_c102 : lw_tbl[514]? = some (.code (am_mn 102) (am_by 102) (am_ml 102) (am_rt 102)) := rfl
set_option maxRecDepth 20000 in
theorem am_c103 : lw_tbl[518]? = some (.code (am_mn 103) (am_by 103) (am_ml 103) (am_rt 103)) := rfl
set_option maxRecDepth 20000 in
theorem am_c104 : lw_tbl[557]? = some (.code (am_mn 104) (am_by 104) (am_ml 104) (am_rt 104)) := rfl
set_option maxRecDepth 20000 in
theorem am_c105 : lw_tbl[561]? = some (.code (am_mn 105) (am_by 105) (am_ml 105) (am_rt 105)) := rfl
set_option maxRecDepth 20000 in
theorem am_c106 : lw_tbl[566]? = some (.code (am_mn 106) (am_by 106) (am_ml 106) (am_rt 106)) := rfl
set_option maxRecDepth 20000 in
theorem am_c107 : lw_tbl[570]? = some (.code (am_mn 107) (am_by 107) (am_ml 107) (am_rt 107)) := rfl
set_option maxRecDepth 20000 in
theorem am_c108 : lw_tbl[575]? = some (.code (am_mn 108) (am_by 108) (am_ml 108) (am_rt 108)) := rfl
set_option maxRecDepth 20000 in
theorem am_c109 : lw_tbl[579]? = some (.code (am_mn 109) (am_by 109) (am_ml 109) (am_rt 109)) := rfl
set_option maxRecDepth 20000 in
theorem am_c110 : lw_tbl[624]? = some (.code (am_mn 110) (am_by 110) (am_ml 110) (am_rt 110)) := rfl
set_option maxRecDepth 20000 in
theorem am_c111 : lw_tbl[632]? = some (.code (am_mn 111) (am_by 111) (am_ml 111) (am_rt 111)) := rfl
set_option maxRecDepth 20000 in
theorem am_c112 : lw_tbl[636]? = some (.code (am_mn 112) (am_by 112) (am_ml 112) (am_rt 112)) := rfl
set_option maxRecDepth 20000 in
theorem am_c113 : lw_tbl[644]? = some (.code (am_mn 113) (am_by 113) (am_ml 113) (am_rt 113)) := rfl
set_option maxRecDepth 20000 in
theorem am_c114 : lw_tbl[805]? = some (.code (am_mn 114) (am_by 114) (am_ml 114) (am_rt 114)) := rfl
set_option maxRecDepth 20000 in
theorem am_c115 : lw_tbl[809]? = some (.code (am_mn 115) (am_by 115) (am_ml 115) (am_rt 115)) := rfl
set_option maxRecDepth 20000 in
theorem am_c116 : lw_tbl[1027]? = some (.code (am_mn 116) (am_by 116) (am_ml 116) (am_rt 116)) := rfl
set_option maxRecDepth 20000 in
theorem am_c117 : lw_tbl[1064]? = some (.code (am_mn 117) (am_by 117) (am_ml 117) (am_rt 117)) := rfl
set_option maxRecDepth 20000 in
theorem am_c118 : lw_tbl[1068]? = some (.code (am_mn 118) (am_by 118) (am_ml 118) (am_rt 118)) := rfl
set_option maxRecDepth 20000 in
theorem am_c119 : lw_tbl[1076]? = some (.code (am_mn 119) (am_by 119) (am_ml 119) (am_rt 119)) := rfl
set_option maxRecDepth 20000 in
theorem am_c120 : lw_tbl[1101]? = some (.code (am_mn 120) (am_by 120) (am_ml 120) (am_rt 120)) := rfl
set_option maxRecDepth 20000 in
theorem am_c121 : lw_tbl[522]? = some (.code (am_mn 121) (am_by 121) (am_ml 121) (am_rt 121)) := rfl
set_option maxRecDepth 20000 in
theorem am_c122 : lw_tbl[648]? = some (.code (am_mn 122) (am_by 122) (am_ml 122) (am_rt 122)) := rfl
set_option maxRecDepth 20000 in
theorem am_c123 : lw_tbl[583]? = some (.code (am_mn 123) (am_by 123) (am_ml 123) (am_rt 123)) := rfl
set_option maxRecDepth 20000 in
theorem am_c124 : lw_tbl[817]? = some (.code (am_mn 124) (am_by 124) (am_ml 124) (am_rt 124)) := rfl
set_option maxRecDepth 20000 in
theorem am_c125 : lw_tbl[813]? = some (.code (am_mn 125) (am_by 125) (am_ml 125) (am_rt 125)) := rfl
set_option maxRecDepth 20000 in
theorem am_c126 : lw_tbl[1023]? = some (.code (am_mn 126) (am_by 126) (am_ml 126) (am_rt 126)) := rfl
set_option maxRecDepth 20000 in
theorem am_c127 : lw_tbl[1106]? = some (.code (am_mn 127) (am_by 127) (am_ml 127) (am_rt 127)) := rfl
set_option maxRecDepth 20000 in
theorem am_c128 : lw_tbl[1283]? = some (.code (am_mn 128) (am_by 128) (am_ml 128) (am_rt 128)) := rfl
set_option maxRecDepth 20000 in
theorem am_c129 : lw_tbl[1290]? = some (.code (am_mn 129) (am_by 129) (am_ml 129) (am_rt 129)) := rfl
set_option maxRecDepth 20000 in
theorem am_c130 : lw_tbl[1276]? = some (.code (am_mn 130) (am_by 130) (am_ml 130) (am_rt 130)) := rfl
set_option maxRecDepth 20000 in
theorem am_c131 : lw_tbl[1272]? = some (.code (am_mn 131) (am_by 131) (am_ml 131) (am_rt 131)) := rfl
set_option maxRecDepth 20000 in
theorem am_c132 : lw_tbl[1280]? = some (.code (am_mn 132) (am_by 132) (am_ml 132) (am_rt 132)) := rfl
set_option maxRecDepth 20000 in
theorem am_c133 : lw_tbl[1297]? = some (.code (am_mn 133) (am_by 133) (am_ml 133) (am_rt 133)) := rfl
set_option maxRecDepth 20000 in
theorem am_c134 : lw_tbl[1294]? = some (.code (am_mn 134) (am_by 134) (am_ml 134) (am_rt 134)) := rfl
set_option maxRecDepth 20000 in
theorem am_c135 : lw_tbl[1287]? = some (.code (am_mn 135) (am_by 135) (am_ml 135) (am_rt 135)) := rfl
set_option maxRecDepth 20000 in
theorem am_c136 : lw_tbl[1302]? = some (.code (am_mn 136) (am_by 136) (am_ml 136) (am_rt 136)) := rfl
set_option maxRecDepth 20000 in
theorem am_c137 : lw_tbl[1306]? = some (.code (am_mn 137) (am_by 137) (am_ml 137) (am_rt 137)) := rfl
set_option maxRecDepth 20000 in
theorem am_c138 : lw_tbl[1310]? = some (.code (am_mn 138) (am_by 138) (am_ml 138) (am_rt 138)) := rfl
set_option maxRecDepth 20000 in
theorem am_c139 : lw_tbl[1314]? = some (.code (am_mn 139) (am_by 139) (am_ml 139) (am_rt 139)) := rfl
set_option maxRecDepth 20000 in
theorem am_c140 : lw_tbl[1318]? = some (.code (am_mn 140) (am_by 140) (am_ml 140) (am_rt 140)) := rfl
set_option maxRecDepth 20000 in
theorem am_c141 : lw_tbl[1333]? = some (.code (am_mn 141) (am_by 141) (am_ml 141) (am_rt 141)) := rfl
set_option maxRecDepth 20000 in
theorem am_c142 : lw_tbl[1330]? = some (.code (am_mn 142) (am_by 142) (am_ml 142) (am_rt 142)) := rfl
set_option maxRecDepth 20000 in
theorem am_c143 : lw_tbl[1367]? = some (.code (am_mn 143) (am_by 143) (am_ml 143) (am_rt 143)) := rfl
set_option maxRecDepth 20000 in
theorem am_c144 : lw_tbl[1326]? = some (.code (am_mn 144) (am_by 144) (am_ml 144) (am_rt 144)) := rfl
set_option maxRecDepth 20000 in
theorem am_c145 : lw_tbl[1342]? = some (.code (am_mn 145) (am_by 145) (am_ml 145) (am_rt 145)) := rfl
set_option maxRecDepth 20000 in
theorem am_c146 : lw_tbl[1322]? = some (.code (am_mn 146) (am_by 146) (am_ml 146) (am_rt 146)) := rfl
set_option maxRecDepth 20000 in
theorem am_c147 : lw_tbl[1338]? = some (.code (am_mn 147) (am_by 147) (am_ml 147) (am_rt 147)) := rfl
set_option maxRecDepth 20000 in
theorem am_c148 : lw_tbl[1346]? = some (.code (am_mn 148) (am_by 148) (am_ml 148) (am_rt 148)) := rfl
set_option maxRecDepth 20000 in
theorem am_c149 : lw_tbl[1350]? = some (.code (am_mn 149) (am_by 149) (am_ml 149) (am_rt 149)) := rfl
set_option maxRecDepth 20000 in
theorem am_c150 : lw_tbl[1383]? = some (.code (am_mn 150) (am_by 150) (am_ml 150) (am_rt 150)) := rfl
set_option maxRecDepth 20000 in
theorem am_c151 : lw_tbl[1392]? = some (.code (am_mn 151) (am_by 151) (am_ml 151) (am_rt 151)) := rfl
set_option maxRecDepth 20000 in
theorem am_c152 : lw_tbl[1379]? = some (.code (am_mn 152) (am_by 152) (am_ml 152) (am_rt 152)) := rfl
set_option maxRecDepth 20000 in
theorem am_c153 : lw_tbl[1387]? = some (.code (am_mn 153) (am_by 153) (am_ml 153) (am_rt 153)) := rfl
set_option maxRecDepth 20000 in
theorem am_c154 : lw_tbl[1412]? = some (.code (am_mn 154) (am_by 154) (am_ml 154) (am_rt 154)) := rfl
set_option maxRecDepth 20000 in
theorem am_c155 : lw_tbl[1398]? = some (.code (am_mn 155) (am_by 155) (am_ml 155) (am_rt 155)) := rfl
set_option maxRecDepth 20000 in
theorem am_c156 : lw_tbl[1363]? = some (.code (am_mn 156) (am_by 156) (am_ml 156) (am_rt 156)) := rfl
set_option maxRecDepth 20000 in
theorem am_c157 : lw_tbl[1371]? = some (.code (am_mn 157) (am_by 157) (am_ml 157) (am_rt 157)) := rfl
set_option maxRecDepth 20000 in
theorem am_c158 : lw_tbl[1359]? = some (.code (am_mn 158) (am_by 158) (am_ml 158) (am_rt 158)) := rfl
set_option maxRecDepth 20000 in
theorem am_c159 : lw_tbl[1355]? = some (.code (am_mn 159) (am_by 159) (am_ml 159) (am_rt 159)) := rfl
set_option maxRecDepth 20000 in
theorem am_c160 : lw_tbl[1375]? = some (.code (am_mn 160) (am_by 160) (am_ml 160) (am_rt 160)) := rfl
set_option maxRecDepth 20000 in
theorem am_c161 : lw_tbl[1422]? = some (.code (am_mn 161) (am_by 161) (am_ml 161) (am_rt 161)) := rfl
set_option maxRecDepth 20000 in
theorem am_c162 : lw_tbl[1405]? = some (.code (am_mn 162) (am_by 162) (am_ml 162) (am_rt 162)) := rfl
set_option maxRecDepth 20000 in
theorem am_c163 : lw_tbl[1418]? = some (.code (am_mn 163) (am_by 163) (am_ml 163) (am_rt 163)) := rfl
set_option maxRecDepth 20000 in
theorem am_c164 : lw_tbl[1427]? = some (.code (am_mn 164) (am_by 164) (am_ml 164) (am_rt 164)) := rfl
set_option maxRecDepth 20000 in
theorem am_c165 : lw_tbl[1443]? = some (.code (am_mn 165) (am_by 165) (am_ml 165) (am_rt 165)) := rfl
set_option maxRecDepth 20000 in
theorem am_c166 : lw_tbl[1451]? = some (.code (am_mn 166) (am_by 166) (am_ml 166) (am_rt 166)) := rfl
set_option maxRecDepth 20000 in
theorem am_c167 : lw_tbl[1459]? = some (.code (am_mn 167) (am_by 167) (am_ml 167) (am_rt 167)) := rfl
set_option maxRecDepth 20000 in
theorem am_c168 : lw_tbl[1499]? = some (.code (am_mn 168) (am_by 168) (am_ml 168) (am_rt 168)) := rfl
set_option maxRecDepth 20000 in
theorem am_c169 : lw_tbl[1491]? = some (.code (am_mn 169) (am_by 169) (am_ml 169) (am_rt 169)) := rfl
set_option maxRecDepth 20000 in
theorem am_c170 : lw_tbl[1475]? = some (.code (am_mn 170) (am_by 170) (am_ml 170) (am_rt 170)) := rfl
set_option maxRecDepth 20000 in
theorem am_c171 : lw_tbl[1479]? = some (.code (am_mn 171) (am_by 171) (am_ml 171) (am_rt 171)) := rfl
set_option maxRecDepth 20000 in
theorem am_c172 : lw_tbl[1471]? = some (.code (am_mn 172) (am_by 172) (am_ml 172) (am_rt 172)) := rfl
set_option maxRecDepth 20000 in
theorem am_c173 : lw_tbl[1467]? = some (.code (am_mn 173) (am_by 173) (am_ml 173) (am_rt 173)) := rfl
set_option maxRecDepth 20000 in
theorem am_c174 : lw_tbl[1463]? = some (.code (am_mn 174) (am_by 174) (am_ml 174) (am_rt 174)) := rfl
set_option maxRecDepth 20000 in
theorem am_c175 : lw_tbl[1514]? = some (.code (am_mn 175) (am_by 175) (am_ml 175) (am_rt 175)) := rfl
set_option maxRecDepth 20000 in
theorem am_c176 : lw_tbl[1455]? = some (.code (am_mn 176) (am_by 176) (am_ml 176) (am_rt 176)) := rfl
set_option maxRecDepth 20000 in
theorem am_c177 : lw_tbl[1495]? = some (.code (am_mn 177) (am_by 177) (am_ml 177) (am_rt 177)) := rfl
set_option maxRecDepth 20000 in
theorem am_c178 : lw_tbl[1439]? = some (.code (am_mn 178) (am_by 178) (am_ml 178) (am_rt 178)) := rfl
set_option maxRecDepth 20000 in
theorem am_c179 : lw_tbl[1483]? = some (.code (am_mn 179) (am_by 179) (am_ml 179) (am_rt 179)) := rfl
set_option maxRecDepth 20000 in
theorem am_c180 : lw_tbl[1487]? = some (.code (am_mn 180) (am_by 180) (am_ml 180) (am_rt 180)) := rfl
set_option maxRecDepth 20000 in
theorem am_c181 : lw_tbl[1447]? = some (.code (am_mn 181) (am_by 181) (am_ml 181) (am_rt 181)) := rfl
set_option maxRecDepth 20000 in
theorem am_c182 : lw_tbl[1510]? = some (.code (am_mn 182) (am_by 182) (am_ml 182) (am_rt 182)) := rfl
set_option maxRecDepth 20000 in
theorem am_c183 : lw_tbl[1504]? = some (.code (am_mn 183) (am_by 183) (am_ml 183) (am_rt 183)) := rfl
set_option maxRecDepth 20000 in
theorem am_c184 : lw_tbl[1518]? = some (.code (am_mn 184) (am_by 184) (am_ml 184) (am_rt 184)) := rfl
set_option maxRecDepth 20000 in
theorem am_c185 : lw_tbl[1536]? = some (.code (am_mn 185) (am_by 185) (am_ml 185) (am_rt 185)) := rfl
set_option maxRecDepth 20000 in
theorem am_c186 : lw_tbl[1532]? = some (.code (am_mn 186) (am_by 186) (am_ml 186) (am_rt 186)) := rfl
set_option maxRecDepth 20000 in
theorem am_c187 : lw_tbl[1528]? = some (.code (am_mn 187) (am_by 187) (am_ml 187) (am_rt 187)) := rfl
set_option maxRecDepth 20000 in
theorem am_c188 : lw_tbl[1435]? = some (.code (am_mn 188) (am_by 188) (am_ml 188) (am_rt 188)) := rfl
set_option maxRecDepth 20000 in
theorem am_c189 : lw_tbl[1431]? = some (.code (am_mn 189) (am_by 189) (am_ml 189) (am_rt 189)) := rfl
set_option maxRecDepth 20000 in
theorem am_c190 : lw_tbl[1524]? = some (.code (am_mn 190) (am_by 190) (am_ml 190) (am_rt 190)) := rfl
set_option maxRecDepth 20000 in
theorem am_c191 : lw_tbl[1540]? = some (.code (am_mn 191) (am_by 191) (am_ml 191) (am_rt 191)) := rfl
set_option maxRecDepth 20000 in
theorem am_c192 : lw_tbl[1548]? = some (.code (am_mn 192) (am_by 192) (am_ml 192) (am_rt 192)) := rfl
set_option maxRecDepth 20000 in
theorem am_c193 : lw_tbl[1555]? = some (.code (am_mn 193) (am_by 193) (am_ml 193) (am_rt 193)) := rfl
set_option maxRecDepth 20000 in
theorem am_c194 : lw_tbl[1544]? = some (.code (am_mn 194) (am_by 194) (am_ml 194) (am_rt 194)) := rfl
set_option maxRecDepth 20000 in
theorem am_c195 : lw_tbl[1559]? = some (.code (am_mn 195) (am_by 195) (am_ml 195) (am_rt 195)) := rfl
set_option maxRecDepth 20000 in
theorem am_c196 : lw_tbl[1563]? = some (.code (am_mn 196) (am_by 196) (am_ml 196) (am_rt 196)) := rfl
set_option maxRecDepth 20000 in
theorem am_c197 : lw_tbl[1575]? = some (.code (am_mn 197) (am_by 197) (am_ml 197) (am_rt 197)) := rfl
set_option maxRecDepth 20000 in
theorem am_c198 : lw_tbl[1567]? = some (.code (am_mn 198) (am_by 198) (am_ml 198) (am_rt 198)) := rfl
set_option maxRecDepth 20000 in
theorem am_c199 : lw_tbl[1571]? = some (.code (am_mn 199) (am_by 199) (am_ml 199) (am_rt 199)) := rfl
set_option maxRecDepth 20000 in
theorem am_c200 : lw_tbl[1579]? = some (.code (am_mn 200) (am_by 200) (am_ml 200) (am_rt 200)) := rfl
set_option maxRecDepth 20000 in
theorem am_c201 : lw_tbl[1594]? = some (.code (am_mn 201) (am_by 201) (am_ml 201) (am_rt 201)) := rfl
set_option maxRecDepth 20000 in
theorem am_c202 : lw_tbl[1602]? = some (.code (am_mn 202) (am_by 202) (am_ml 202) (am_rt 202)) := rfl
set_option maxRecDepth 20000 in
theorem am_c203 : lw_tbl[1598]? = some (.code (am_mn 203) (am_by 203) (am_ml 203) (am_rt 203)) := rfl
set_option maxRecDepth 20000 in
theorem am_c204 : lw_tbl[1586]? = some (.code (am_mn 204) (am_by 204) (am_ml 204) (am_rt 204)) := rfl
set_option maxRecDepth 20000 in
theorem am_c205 : lw_tbl[1590]? = some (.code (am_mn 205) (am_by 205) (am_ml 205) (am_rt 205)) := rfl
set_option maxRecDepth 20000 in
theorem am_c206 : lw_tbl[1609]? = some (.code (am_mn 206) (am_by 206) (am_ml 206) (am_rt 206)) := rfl
theorem am_cin {m : Nat} (hm : m < am_NM) (hl : m ≠ am_law) : Cond.code (am_mn m) (am_by m) (am_ml m) (am_rt m) ∈ lw_tbl := by
  have hm : m < 208 := hm
  by_cases h104 : m < 104
  · by_cases h52 : m < 52
    · by_cases h26 : m < 26
      · by_cases h13 : m < 13
        · by_cases h6 : m < 6
          · by_cases h3 : m < 3
            · by_cases h1 : m < 1
              · obtain rfl : m = 0 := by omega
                exact List.mem_of_getElem? am_c0
              · by_cases h2 : m < 2
                · obtain rfl : m = 1 := by omega
                  exact List.mem_of_getElem? am_c1
                · obtain rfl : m = 2 := by omega
                  exact List.mem_of_getElem? am_c2
            · by_cases h4 : m < 4
              · obtain rfl : m = 3 := by omega
                exact List.mem_of_getElem? am_c3
              · by_cases h5 : m < 5
                · obtain rfl : m = 4 := by omega
                  exact List.mem_of_getElem? am_c4
                · obtain rfl : m = 5 := by omega
                  exact List.mem_of_getElem? am_c5
          · by_cases h9 : m < 9
            · by_cases h7 : m < 7
              · obtain rfl : m = 6 := by omega
                exact List.mem_of_getElem? am_c6
              · by_cases h8 : m < 8
                · obtain rfl : m = 7 := by omega
                  exact List.mem_of_getElem? am_c7
                · obtain rfl : m = 8 := by omega
                  exact List.mem_of_getElem? am_c8
            · by_cases h11 : m < 11
              · by_cases h10 : m < 10
                · obtain rfl : m = 9 := by omega
                  exact List.mem_of_getElem? am_c9
                · obtain rfl : m = 10 := by omega
                  exact List.mem_of_getElem? am_c10
              · by_cases h12 : m < 12
                · obtain rfl : m = 11 := by omega
                  exact List.mem_of_getElem? am_c11
                · obtain rfl : m = 12 := by omega
                  exact List.mem_of_getElem? am_c12
        · by_cases h19 : m < 19
          · by_cases h16 : m < 16
            · by_cases h14 : m < 14
              · obtain rfl : m = 13 := by omega
                exact List.mem_of_getElem? am_c13
              · by_cases h15 : m < 15
                · obtain rfl : m = 14 := by omega
                  exact List.mem_of_getElem? am_c14
                · obtain rfl : m = 15 := by omega
                  exact List.mem_of_getElem? am_c15
            · by_cases h17 : m < 17
              · obtain rfl : m = 16 := by omega
                exact List.mem_of_getElem? am_c16
              · by_cases h18 : m < 18
                · obtain rfl : m = 17 := by omega
                  exact List.mem_of_getElem? am_c17
                · obtain rfl : m = 18 := by omega
                  exact List.mem_of_getElem? am_c18
          · by_cases h22 : m < 22
            · by_cases h20 : m < 20
              · obtain rfl : m = 19 := by omega
                exact List.mem_of_getElem? am_c19
              · by_cases h21 : m < 21
                · obtain rfl : m = 20 := by omega
                  exact List.mem_of_getElem? am_c20
                · obtain rfl : m = 21 := by omega
                  exact List.mem_of_getElem? am_c21
            · by_cases h24 : m < 24
              · by_cases h23 : m < 23
                · obtain rfl : m = 22 := by omega
                  exact List.mem_of_getElem? am_c22
                · obtain rfl : m = 23 := by omega
                  exact List.mem_of_getElem? am_c23
              · by_cases h25 : m < 25
                · obtain rfl : m = 24 := by omega
                  exact List.mem_of_getElem? am_c24
                · obtain rfl : m = 25 := by omega
                  exact List.mem_of_getElem? am_c25
      · by_cases h39 : m < 39
        · by_cases h32 : m < 32
          · by_cases h29 : m < 29
            · by_cases h27 : m < 27
              · obtain rfl : m = 26 := by omega
                exact List.mem_of_getElem? am_c26
              · by_cases h28 : m < 28
                · obtain rfl : m = 27 := by omega
                  exact List.mem_of_getElem? am_c27
                · obtain rfl : m = 28 := by omega
                  exact List.mem_of_getElem? am_c28
            · by_cases h30 : m < 30
              · obtain rfl : m = 29 := by omega
                exact List.mem_of_getElem? am_c29
              · by_cases h31 : m < 31
                · obtain rfl : m = 30 := by omega
                  exact List.mem_of_getElem? am_c30
                · obtain rfl : m = 31 := by omega
                  exact List.mem_of_getElem? am_c31
          · by_cases h35 : m < 35
            · by_cases h33 : m < 33
              · obtain rfl : m = 32 := by omega
                exact List.mem_of_getElem? am_c32
              · by_cases h34 : m < 34
                · obtain rfl : m = 33 := by omega
                  exact List.mem_of_getElem? am_c33
                · obtain rfl : m = 34 := by omega
                  exact List.mem_of_getElem? am_c34
            · by_cases h37 : m < 37
              · by_cases h36 : m < 36
                · obtain rfl : m = 35 := by omega
                  exact List.mem_of_getElem? am_c35
                · obtain rfl : m = 36 := by omega
                  exact List.mem_of_getElem? am_c36
              · by_cases h38 : m < 38
                · obtain rfl : m = 37 := by omega
                  exact List.mem_of_getElem? am_c37
                · obtain rfl : m = 38 := by omega
                  exact List.mem_of_getElem? am_c38
        · by_cases h45 : m < 45
          · by_cases h42 : m < 42
            · by_cases h40 : m < 40
              · obtain rfl : m = 39 := by omega
                exact List.mem_of_getElem? am_c39
              · by_cases h41 : m < 41
                · obtain rfl : m = 40 := by omega
                  exact List.mem_of_getElem? am_c40
                · obtain rfl : m = 41 := by omega
                  exact List.mem_of_getElem? am_c41
            · by_cases h43 : m < 43
              · obtain rfl : m = 42 := by omega
                exact List.mem_of_getElem? am_c42
              · by_cases h44 : m < 44
                · obtain rfl : m = 43 := by omega
                  exact List.mem_of_getElem? am_c43
                · obtain rfl : m = 44 := by omega
                  exact List.mem_of_getElem? am_c44
          · by_cases h48 : m < 48
            · by_cases h46 : m < 46
              · obtain rfl : m = 45 := by omega
                exact List.mem_of_getElem? am_c45
              · by_cases h47 : m < 47
                · obtain rfl : m = 46 := by omega
                  exact List.mem_of_getElem? am_c46
                · obtain rfl : m = 47 := by omega
                  exact List.mem_of_getElem? am_c47
            · by_cases h50 : m < 50
              · by_cases h49 : m < 49
                · obtain rfl : m = 48 := by omega
                  exact List.mem_of_getElem? am_c48
                · obtain rfl : m = 49 := by omega
                  exact List.mem_of_getElem? am_c49
              · by_cases h51 : m < 51
                · obtain rfl : m = 50 := by omega
                  exact List.mem_of_getElem? am_c50
                · obtain rfl : m = 51 := by omega
                  exact List.mem_of_getElem? am_c51
    · by_cases h78 : m < 78
      · by_cases h65 : m < 65
        · by_cases h58 : m < 58
          · by_cases h55 : m < 55
            · by_cases h53 : m < 53
              · obtain rfl : m = 52 := by omega
                exact List.mem_of_getElem? am_c52
              · by_cases h54 : m < 54
                · obtain rfl : m = 53 := by omega
                  exact List.mem_of_getElem? am_c53
                · obtain rfl : m = 54 := by omega
                  exact List.mem_of_getElem? am_c54
            · by_cases h56 : m < 56
              · obtain rfl : m = 55 := by omega
                exact List.mem_of_getElem? am_c55
              · by_cases h57 : m < 57
                · obtain rfl : m = 56 := by omega
                  exact List.mem_of_getElem? am_c56
                · obtain rfl : m = 57 := by omega
                  exact List.mem_of_getElem? am_c57
          · by_cases h61 : m < 61
            · by_cases h59 : m < 59
              · obtain rfl : m = 58 := by omega
                exact List.mem_of_getElem? am_c58
              · by_cases h60 : m < 60
                · obtain rfl : m = 59 := by omega
                  exact List.mem_of_getElem? am_c59
                · obtain rfl : m = 60 := by omega
                  exact List.mem_of_getElem? am_c60
            · by_cases h63 : m < 63
              · by_cases h62 : m < 62
                · obtain rfl : m = 61 := by omega
                  exact List.mem_of_getElem? am_c61
                · obtain rfl : m = 62 := by omega
                  exact List.mem_of_getElem? am_c62
              · by_cases h64 : m < 64
                · obtain rfl : m = 63 := by omega
                  exact List.mem_of_getElem? am_c63
                · obtain rfl : m = 64 := by omega
                  exact List.mem_of_getElem? am_c64
        · by_cases h71 : m < 71
          · by_cases h68 : m < 68
            · by_cases h66 : m < 66
              · obtain rfl : m = 65 := by omega
                exact List.mem_of_getElem? am_c65
              · by_cases h67 : m < 67
                · obtain rfl : m = 66 := by omega
                  exact List.mem_of_getElem? am_c66
                · obtain rfl : m = 67 := by omega
                  exact List.mem_of_getElem? am_c67
            · by_cases h69 : m < 69
              · obtain rfl : m = 68 := by omega
                exact List.mem_of_getElem? am_c68
              · by_cases h70 : m < 70
                · obtain rfl : m = 69 := by omega
                  exact List.mem_of_getElem? am_c69
                · obtain rfl : m = 70 := by omega
                  exact List.mem_of_getElem? am_c70
          · by_cases h74 : m < 74
            · by_cases h72 : m < 72
              · obtain rfl : m = 71 := by omega
                exact List.mem_of_getElem? am_c71
              · by_cases h73 : m < 73
                · obtain rfl : m = 72 := by omega
                  exact List.mem_of_getElem? am_c72
                · obtain rfl : m = 73 := by omega
                  exact List.mem_of_getElem? am_c73
            · by_cases h76 : m < 76
              · by_cases h75 : m < 75
                · obtain rfl : m = 74 := by omega
                  exact List.mem_of_getElem? am_c74
                · obtain rfl : m = 75 := by omega
                  exact List.mem_of_getElem? am_c75
              · by_cases h77 : m < 77
                · obtain rfl : m = 76 := by omega
                  exact List.mem_of_getElem? am_c76
                · obtain rfl : m = 77 := by omega
                  exact List.mem_of_getElem? am_c77
      · by_cases h91 : m < 91
        · by_cases h84 : m < 84
          · by_cases h81 : m < 81
            · by_cases h79 : m < 79
              · obtain rfl : m = 78 := by omega
                exact List.mem_of_getElem? am_c78
              · by_cases h80 : m < 80
                · obtain rfl : m = 79 := by omega
                  exact List.mem_of_getElem? am_c79
                · obtain rfl : m = 80 := by omega
                  exact List.mem_of_getElem? am_c80
            · by_cases h82 : m < 82
              · obtain rfl : m = 81 := by omega
                exact List.mem_of_getElem? am_c81
              · by_cases h83 : m < 83
                · obtain rfl : m = 82 := by omega
                  exact List.mem_of_getElem? am_c82
                · obtain rfl : m = 83 := by omega
                  exact List.mem_of_getElem? am_c83
          · by_cases h87 : m < 87
            · by_cases h85 : m < 85
              · obtain rfl : m = 84 := by omega
                exact List.mem_of_getElem? am_c84
              · by_cases h86 : m < 86
                · obtain rfl : m = 85 := by omega
                  exact List.mem_of_getElem? am_c85
                · obtain rfl : m = 86 := by omega
                  exact List.mem_of_getElem? am_c86
            · by_cases h89 : m < 89
              · by_cases h88 : m < 88
                · obtain rfl : m = 87 := by omega
                  exact List.mem_of_getElem? am_c87
                · obtain rfl : m = 88 := by omega
                  exact List.mem_of_getElem? am_c88
              · by_cases h90 : m < 90
                · obtain rfl : m = 89 := by omega
                  exact List.mem_of_getElem? am_c89
                · obtain rfl : m = 90 := by omega
                  exact List.mem_of_getElem? am_c90
        · by_cases h97 : m < 97
          · by_cases h94 : m < 94
            · by_cases h92 : m < 92
              · obtain rfl : m = 91 := by omega
                exact List.mem_of_getElem? am_c91
              · by_cases h93 : m < 93
                · obtain rfl : m = 92 := by omega
                  exact List.mem_of_getElem? am_c92
                · obtain rfl : m = 93 := by omega
                  exact List.mem_of_getElem? am_c93
            · by_cases h95 : m < 95
              · obtain rfl : m = 94 := by omega
                exact List.mem_of_getElem? am_c94
              · by_cases h96 : m < 96
                · obtain rfl : m = 95 := by omega
                  exact List.mem_of_getElem? am_c95
                · obtain rfl : m = 96 := by omega
                  exact List.mem_of_getElem? am_c96
          · by_cases h100 : m < 100
            · by_cases h98 : m < 98
              · obtain rfl : m = 97 := by omega
                exact List.mem_of_getElem? am_c97
              · by_cases h99 : m < 99
                · obtain rfl : m = 98 := by omega
                  exact List.mem_of_getElem? am_c98
                · obtain rfl : m = 99 := by omega
                  exact List.mem_of_getElem? am_c99
            · by_cases h102 : m < 102
              · by_cases h101 : m < 101
                · obtain rfl : m = 100 := by omega
                  exact List.mem_of_getElem? am_c100
                · obtain rfl : m = 101 := by omega
                  exact List.mem_of_getElem? am_c101
              · by_cases h103 : m < 103
                · obtain rfl : m = 102 := by omega
                  exact List.mem_of_getElem? am_c102
                · obtain rfl : m = 103 := by omega
                  exact List.mem_of_getElem? am_c103
  · by_cases h156 : m < 156
    · by_cases h130 : m < 130
      · by_cases h117 : m < 117
        · by_cases h110 : m < 110
          · by_cases h107 : m < 107
            · by_cases h105 : m < 105
              · obtain rfl : m = 104 := by omega
                exact List.mem_of_getElem? am_c104
              · by_cases h106 : m < 106
                · obtain rfl : m = 105 := by omega
                  exact List.mem_of_getElem? am_c105
                · obtain rfl : m = 106 := by omega
                  exact List.mem_of_getElem? am_c106
            · by_cases h108 : m < 108
              · obtain rfl : m = 107 := by omega
                exact List.mem_of_getElem? am_c107
              · by_cases h109 : m < 109
                · obtain rfl : m = 108 := by omega
                  exact List.mem_of_getElem? am_c108
                · obtain rfl : m = 109 := by omega
                  exact List.mem_of_getElem? am_c109
          · by_cases h113 : m < 113
            · by_cases h111 : m < 111
              · obtain rfl : m = 110 := by omega
                exact List.mem_of_getElem? am_c110
              · by_cases h112 : m < 112
                · obtain rfl : m = 111 := by omega
                  exact List.mem_of_getElem? am_c111
                · obtain rfl : m = 112 := by omega
                  exact List.mem_of_getElem? am_c112
            · by_cases h115 : m < 115
              · by_cases h114 : m < 114
                · obtain rfl : m = 113 := by omega
                  exact List.mem_of_getElem? am_c113
                · obtain rfl : m = 114 := by omega
                  exact List.mem_of_getElem? am_c114
              · by_cases h116 : m < 116
                · obtain rfl : m = 115 := by omega
                  exact List.mem_of_getElem? am_c115
                · obtain rfl : m = 116 := by omega
                  exact List.mem_of_getElem? am_c116
        · by_cases h123 : m < 123
          · by_cases h120 : m < 120
            · by_cases h118 : m < 118
              · obtain rfl : m = 117 := by omega
                exact List.mem_of_getElem? am_c117
              · by_cases h119 : m < 119
                · obtain rfl : m = 118 := by omega
                  exact List.mem_of_getElem? am_c118
                · obtain rfl : m = 119 := by omega
                  exact List.mem_of_getElem? am_c119
            · by_cases h121 : m < 121
              · obtain rfl : m = 120 := by omega
                exact List.mem_of_getElem? am_c120
              · by_cases h122 : m < 122
                · obtain rfl : m = 121 := by omega
                  exact List.mem_of_getElem? am_c121
                · obtain rfl : m = 122 := by omega
                  exact List.mem_of_getElem? am_c122
          · by_cases h126 : m < 126
            · by_cases h124 : m < 124
              · obtain rfl : m = 123 := by omega
                exact List.mem_of_getElem? am_c123
              · by_cases h125 : m < 125
                · obtain rfl : m = 124 := by omega
                  exact List.mem_of_getElem? am_c124
                · obtain rfl : m = 125 := by omega
                  exact List.mem_of_getElem? am_c125
            · by_cases h128 : m < 128
              · by_cases h127 : m < 127
                · obtain rfl : m = 126 := by omega
                  exact List.mem_of_getElem? am_c126
                · obtain rfl : m = 127 := by omega
                  exact List.mem_of_getElem? am_c127
              · by_cases h129 : m < 129
                · obtain rfl : m = 128 := by omega
                  exact List.mem_of_getElem? am_c128
                · obtain rfl : m = 129 := by omega
                  exact List.mem_of_getElem? am_c129
      · by_cases h143 : m < 143
        · by_cases h136 : m < 136
          · by_cases h133 : m < 133
            · by_cases h131 : m < 131
              · obtain rfl : m = 130 := by omega
                exact List.mem_of_getElem? am_c130
              · by_cases h132 : m < 132
                · obtain rfl : m = 131 := by omega
                  exact List.mem_of_getElem? am_c131
                · obtain rfl : m = 132 := by omega
                  exact List.mem_of_getElem? am_c132
            · by_cases h134 : m < 134
              · obtain rfl : m = 133 := by omega
                exact List.mem_of_getElem? am_c133
              · by_cases h135 : m < 135
                · obtain rfl : m = 134 := by omega
                  exact List.mem_of_getElem? am_c134
                · obtain rfl : m = 135 := by omega
                  exact List.mem_of_getElem? am_c135
          · by_cases h139 : m < 139
            · by_cases h137 : m < 137
              · obtain rfl : m = 136 := by omega
                exact List.mem_of_getElem? am_c136
              · by_cases h138 : m < 138
                · obtain rfl : m = 137 := by omega
                  exact List.mem_of_getElem? am_c137
                · obtain rfl : m = 138 := by omega
                  exact List.mem_of_getElem? am_c138
            · by_cases h141 : m < 141
              · by_cases h140 : m < 140
                · obtain rfl : m = 139 := by omega
                  exact List.mem_of_getElem? am_c139
                · obtain rfl : m = 140 := by omega
                  exact List.mem_of_getElem? am_c140
              · by_cases h142 : m < 142
                · obtain rfl : m = 141 := by omega
                  exact List.mem_of_getElem? am_c141
                · obtain rfl : m = 142 := by omega
                  exact List.mem_of_getElem? am_c142
        · by_cases h149 : m < 149
          · by_cases h146 : m < 146
            · by_cases h144 : m < 144
              · obtain rfl : m = 143 := by omega
                exact List.mem_of_getElem? am_c143
              · by_cases h145 : m < 145
                · obtain rfl : m = 144 := by omega
                  exact List.mem_of_getElem? am_c144
                · obtain rfl : m = 145 := by omega
                  exact List.mem_of_getElem? am_c145
            · by_cases h147 : m < 147
              · obtain rfl : m = 146 := by omega
                exact List.mem_of_getElem? am_c146
              · by_cases h148 : m < 148
                · obtain rfl : m = 147 := by omega
                  exact List.mem_of_getElem? am_c147
                · obtain rfl : m = 148 := by omega
                  exact List.mem_of_getElem? am_c148
          · by_cases h152 : m < 152
            · by_cases h150 : m < 150
              · obtain rfl : m = 149 := by omega
                exact List.mem_of_getElem? am_c149
              · by_cases h151 : m < 151
                · obtain rfl : m = 150 := by omega
                  exact List.mem_of_getElem? am_c150
                · obtain rfl : m = 151 := by omega
                  exact List.mem_of_getElem? am_c151
            · by_cases h154 : m < 154
              · by_cases h153 : m < 153
                · obtain rfl : m = 152 := by omega
                  exact List.mem_of_getElem? am_c152
                · obtain rfl : m = 153 := by omega
                  exact List.mem_of_getElem? am_c153
              · by_cases h155 : m < 155
                · obtain rfl : m = 154 := by omega
                  exact List.mem_of_getElem? am_c154
                · obtain rfl : m = 155 := by omega
                  exact List.mem_of_getElem? am_c155
    · by_cases h182 : m < 182
      · by_cases h169 : m < 169
        · by_cases h162 : m < 162
          · by_cases h159 : m < 159
            · by_cases h157 : m < 157
              · obtain rfl : m = 156 := by omega
                exact List.mem_of_getElem? am_c156
              · by_cases h158 : m < 158
                · obtain rfl : m = 157 := by omega
                  exact List.mem_of_getElem? am_c157
                · obtain rfl : m = 158 := by omega
                  exact List.mem_of_getElem? am_c158
            · by_cases h160 : m < 160
              · obtain rfl : m = 159 := by omega
                exact List.mem_of_getElem? am_c159
              · by_cases h161 : m < 161
                · obtain rfl : m = 160 := by omega
                  exact List.mem_of_getElem? am_c160
                · obtain rfl : m = 161 := by omega
                  exact List.mem_of_getElem? am_c161
          · by_cases h165 : m < 165
            · by_cases h163 : m < 163
              · obtain rfl : m = 162 := by omega
                exact List.mem_of_getElem? am_c162
              · by_cases h164 : m < 164
                · obtain rfl : m = 163 := by omega
                  exact List.mem_of_getElem? am_c163
                · obtain rfl : m = 164 := by omega
                  exact List.mem_of_getElem? am_c164
            · by_cases h167 : m < 167
              · by_cases h166 : m < 166
                · obtain rfl : m = 165 := by omega
                  exact List.mem_of_getElem? am_c165
                · obtain rfl : m = 166 := by omega
                  exact List.mem_of_getElem? am_c166
              · by_cases h168 : m < 168
                · obtain rfl : m = 167 := by omega
                  exact List.mem_of_getElem? am_c167
                · obtain rfl : m = 168 := by omega
                  exact List.mem_of_getElem? am_c168
        · by_cases h175 : m < 175
          · by_cases h172 : m < 172
            · by_cases h170 : m < 170
              · obtain rfl : m = 169 := by omega
                exact List.mem_of_getElem? am_c169
              · by_cases h171 : m < 171
                · obtain rfl : m = 170 := by omega
                  exact List.mem_of_getElem? am_c170
                · obtain rfl : m = 171 := by omega
                  exact List.mem_of_getElem? am_c171
            · by_cases h173 : m < 173
              · obtain rfl : m = 172 := by omega
                exact List.mem_of_getElem? am_c172
              · by_cases h174 : m < 174
                · obtain rfl : m = 173 := by omega
                  exact List.mem_of_getElem? am_c173
                · obtain rfl : m = 174 := by omega
                  exact List.mem_of_getElem? am_c174
          · by_cases h178 : m < 178
            · by_cases h176 : m < 176
              · obtain rfl : m = 175 := by omega
                exact List.mem_of_getElem? am_c175
              · by_cases h177 : m < 177
                · obtain rfl : m = 176 := by omega
                  exact List.mem_of_getElem? am_c176
                · obtain rfl : m = 177 := by omega
                  exact List.mem_of_getElem? am_c177
            · by_cases h180 : m < 180
              · by_cases h179 : m < 179
                · obtain rfl : m = 178 := by omega
                  exact List.mem_of_getElem? am_c178
                · obtain rfl : m = 179 := by omega
                  exact List.mem_of_getElem? am_c179
              · by_cases h181 : m < 181
                · obtain rfl : m = 180 := by omega
                  exact List.mem_of_getElem? am_c180
                · obtain rfl : m = 181 := by omega
                  exact List.mem_of_getElem? am_c181
      · by_cases h195 : m < 195
        · by_cases h188 : m < 188
          · by_cases h185 : m < 185
            · by_cases h183 : m < 183
              · obtain rfl : m = 182 := by omega
                exact List.mem_of_getElem? am_c182
              · by_cases h184 : m < 184
                · obtain rfl : m = 183 := by omega
                  exact List.mem_of_getElem? am_c183
                · obtain rfl : m = 184 := by omega
                  exact List.mem_of_getElem? am_c184
            · by_cases h186 : m < 186
              · obtain rfl : m = 185 := by omega
                exact List.mem_of_getElem? am_c185
              · by_cases h187 : m < 187
                · obtain rfl : m = 186 := by omega
                  exact List.mem_of_getElem? am_c186
                · obtain rfl : m = 187 := by omega
                  exact List.mem_of_getElem? am_c187
          · by_cases h191 : m < 191
            · by_cases h189 : m < 189
              · obtain rfl : m = 188 := by omega
                exact List.mem_of_getElem? am_c188
              · by_cases h190 : m < 190
                · obtain rfl : m = 189 := by omega
                  exact List.mem_of_getElem? am_c189
                · obtain rfl : m = 190 := by omega
                  exact List.mem_of_getElem? am_c190
            · by_cases h193 : m < 193
              · by_cases h192 : m < 192
                · obtain rfl : m = 191 := by omega
                  exact List.mem_of_getElem? am_c191
                · obtain rfl : m = 192 := by omega
                  exact List.mem_of_getElem? am_c192
              · by_cases h194 : m < 194
                · obtain rfl : m = 193 := by omega
                  exact List.mem_of_getElem? am_c193
                · obtain rfl : m = 194 := by omega
                  exact List.mem_of_getElem? am_c194
        · by_cases h201 : m < 201
          · by_cases h198 : m < 198
            · by_cases h196 : m < 196
              · obtain rfl : m = 195 := by omega
                exact List.mem_of_getElem? am_c195
              · by_cases h197 : m < 197
                · obtain rfl : m = 196 := by omega
                  exact List.mem_of_getElem? am_c196
                · obtain rfl : m = 197 := by omega
                  exact List.mem_of_getElem? am_c197
            · by_cases h199 : m < 199
              · obtain rfl : m = 198 := by omega
                exact List.mem_of_getElem? am_c198
              · by_cases h200 : m < 200
                · obtain rfl : m = 199 := by omega
                  exact List.mem_of_getElem? am_c199
                · obtain rfl : m = 200 := by omega
                  exact List.mem_of_getElem? am_c200
          · by_cases h204 : m < 204
            · by_cases h202 : m < 202
              · obtain rfl : m = 201 := by omega
                exact List.mem_of_getElem? am_c201
              · by_cases h203 : m < 203
                · obtain rfl : m = 202 := by omega
                  exact List.mem_of_getElem? am_c202
                · obtain rfl : m = 203 := by omega
                  exact List.mem_of_getElem? am_c203
            · by_cases h206 : m < 206
              · by_cases h205 : m < 205
                · obtain rfl : m = 204 := by omega
                  exact List.mem_of_getElem? am_c204
                · obtain rfl : m = 205 := by omega
                  exact List.mem_of_getElem? am_c205
              · by_cases h207 : m < 207
                · obtain rfl : m = 206 := by omega
                  exact List.mem_of_getElem? am_c206
                · obtain rfl : m = 207 := by omega
                  exact absurd rfl hl
