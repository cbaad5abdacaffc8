set_option maxRecDepth 100000 in
theorem ax_w0 : lw_tbl[124]? = some (.code (ax_y 0) (ax_code 0) (ax_maxL 0) (ax_ret 0)) := rfl
set_option maxRecDepth 100000 in
theorem ax_w1 : lw_tbl[379]? = some (.code (ax_y 1) (ax_code 1) (ax_maxL 1) (ax_ret 1)) := rfl
set_option maxRecDepth 100000 in
theorem ax_w2 : lw_tbl[846]? = some (.code (ax_y 2) (ax_code 2) (ax_maxL 2) (ax_ret 2)) := rfl
set_option maxRecDepth 100000 in
theorem ax_w3 : lw_tbl[617]? = some (.code (ax_y 3) (ax_code 3) (ax_maxL 3) (ax_ret 3)) := rfl
set_option maxRecDepth 100000 in
theorem ax_w4 : lw_tbl[855]? = some (.code (ax_y 4) (ax_code 4) (ax_maxL 4) (ax_ret 4)) := rfl
set_option maxRecDepth 100000 in
theorem ax_w5 : lw_tbl[835]? = some (.code (ax_y 5) (ax_code 5) (ax_maxL 5) (ax_ret 5)) := rfl
set_option maxRecDepth 100000 in
theorem ax_w6 : lw_tbl[253]? = some (.code (ax_y 6) (ax_code 6) (ax_maxL 6) (ax_ret 6)) := rfl
set_option maxRecDepth 100000 in
theorem ax_w7 : lw_tbl[685]? = some (.code (ax_y 7) (ax_code 7) (ax_maxL 7) (ax_ret 7)) := rfl
set_option maxRecDepth 100000 in
theorem ax_w8 : lw_tbl[691]? = some (.code (ax_y 8) (ax_code 8) (ax_maxL 8) (ax_ret 8)) := rfl
set_option maxRecDepth 100000 in
theorem ax_w9 : lw_tbl[695]? = some (.code (ax_y 9) (ax_code 9) (ax_maxL 9) (ax_ret 9)) := rfl
set_option maxRecDepth 100000 in
theorem ax_w10 : lw_tbl[278]? = some (.code (ax_y 10) (ax_code 10) (ax_maxL 10) (ax_ret 10)) := rfl
set_option maxRecDepth 100000 in
theorem ax_w11 : lw_tbl[981]? = some (.code (ax_y 11) (ax_code 11) (ax_maxL 11) (ax_ret 11)) := rfl
set_option maxRecDepth 100000 in
theorem ax_w12 : lw_tbl[333]? = some (.code (ax_y 12) (ax_code 12) (ax_maxL 12) (ax_ret 12)) := rfl
set_option maxRecDepth 100000 in
theorem ax_w13 : lw_tbl[341]? = some (.code (ax_y 13) (ax_code 13) (ax_maxL 13) (ax_ret 13)) := rfl
set_option maxRecDepth 100000 in
theorem ax_w14 : lw_tbl[992]? = some (.code (ax_y 14) (ax_code 14) (ax_maxL 14) (ax_ret 14)) := rfl
set_option maxRecDepth 100000 in
theorem ax_w15 : lw_tbl[344]? = some (.code (ax_y 15) (ax_code 15) (ax_maxL 15) (ax_ret 15)) := rfl
set_option maxRecDepth 100000 in
theorem ax_w16 : lw_tbl[347]? = some (.code (ax_y 16) (ax_code 16) (ax_maxL 16) (ax_ret 16)) := rfl
set_option maxRecDepth 100000 in
theorem ax_w17 : lw_tbl[353]? = some (.code (ax_y 17) (ax_code 17) (ax_maxL 17) (ax_ret 17)) := rfl
set_option maxRecDepth 100000 in
theorem ax_w18 : lw_tbl[356]? = some (.code (ax_y 18) (ax_code 18) (ax_maxL 18) (ax_ret 18)) := rfl
set_option maxRecDepth 100000 in
theorem ax_w19 : lw_tbl[350]? = some (.code (ax_y 19) (ax_code 19) (ax_maxL 19) (ax_ret 19)) := rfl
set_option maxRecDepth 100000 in
theorem ax_w20 : lw_tbl[1001]? = some (.code (ax_y 20) (ax_code 20) (ax_maxL 20) (ax_ret 20)) := rfl
set_option maxRecDepth 100000 in
theorem ax_w21 : lw_tbl[185]? = some (.code (ax_y 21) (ax_code 21) (ax_maxL 21) (ax_ret 21)) := rfl
set_option maxRecDepth 100000 in
theorem ax_w22 : lw_tbl[389]? = some (.code (ax_y 22) (ax_code 22) (ax_maxL 22) (ax_ret 22)) := rfl
set_option maxRecDepth 100000 in
theorem ax_w23 : lw_tbl[203]? = some (.code (ax_y 23) (ax_code 23) (ax_maxL 23) (ax_ret 23)) := rfl
set_option maxRecDepth 100000 in
theorem ax_w24 : lw_tbl[420]? = some (.code (ax_y 24) (ax_code 24) (ax_maxL 24) (ax_ret 24)) := rfl
set_option maxRecDepth 100000 in
theorem ax_w25 : lw_tbl[428]? = some (.code (ax_y 25) (ax_code 25) (ax_maxL 25) (ax_ret 25)) := rfl
set_option maxRecDepth 100000 in
theorem ax_w26 : lw_tbl[432]? = some (.code (ax_y 26) (ax_code 26) (ax_maxL 26) (ax_ret 26)) := rfl
set_option maxRecDepth 100000 in
theorem ax_w27 : lw_tbl[157]? = some (.code (ax_y 27) (ax_code 27) (ax_maxL 27) (ax_ret 27)) := rfl
set_option maxRecDepth 100000 in
theorem ax_w28 : lw_tbl[384]? = some (.code (ax_y 28) (ax_code 28) (ax_maxL 28) (ax_ret 28)) := rfl
set_option maxRecDepth 100000 in
theorem ax_w29 : lw_tbl[729]? = some (.code (ax_y 29) (ax_code 29) (ax_maxL 29) (ax_ret 29)) := rfl
set_option maxRecDepth 100000 in
theorem ax_w30 : lw_tbl[902]? = some (.code (ax_y 30) (ax_code 30) (ax_maxL 30) (ax_ret 30)) := rfl
set_option maxRecDepth 100000 in
theorem ax_w31 : lw_tbl[734]? = some (.code (ax_y 31) (ax_code 31) (ax_maxL 31) (ax_ret 31)) := rfl
set_option maxRecDepth 100000 in
theorem ax_w32 : lw_tbl[743]? = some (.code (ax_y 32) (ax_code 32) (ax_maxL 32) (ax_ret 32)) := rfl
set_option maxRecDepth 100000 in
theorem ax_w33 : lw_tbl[757]? = some (.code (ax_y 33) (ax_code 33) (ax_maxL 33) (ax_ret 33)) := rfl
set_option maxRecDepth 100000 in
theorem ax_w34 : lw_tbl[453]? = some (.code (ax_y 34) (ax_code 34) (ax_maxL 34) (ax_ret 34)) := rfl
set_option maxRecDepth 100000 in
theorem ax_w35 : lw_tbl[444]? = some (.code (ax_y 35) (ax_code 35) (ax_maxL 35) (ax_ret 35)) := rfl
set_option maxRecDepth 100000 in
theorem ax_w36 : lw_tbl[562]? = some (.code (ax_y 36) (ax_code 36) (ax_maxL 36) (ax_ret 36)) := rfl
set_option maxRecDepth 100000 in
theorem ax_w37 : lw_tbl[954]? = some (.code (ax_y 37) (ax_code 37) (ax_maxL 37) (ax_ret 37)) := rfl
set_option maxRecDepth 100000 in
theorem ax_w38 : lw_tbl[963]? = some (.code (ax_y 38) (ax_code 38) (ax_maxL 38) (ax_ret 38)) := rfl
set_option maxRecDepth 100000 in
theorem ax_w39 : lw_tbl[968]? = some (.code (ax_y 39) (ax_code 39) (ax_maxL 39) (ax_ret 39)) := rfl
set_option maxRecDepth 100000 in
theorem ax_w40 : lw_tbl[87]? = some (.code (ax_y 40) (ax_code 40) (ax_maxL 40) (ax_ret 40)) := rfl
set_option maxRecDepth 100000 in
theorem ax_w41 : lw_tbl[368]? = some (.code (ax_y 41) (ax_code 41) (ax_maxL 41) (ax_ret 41)) := rfl
set_option maxRecDepth 100000 in
theorem ax_w42 : lw_tbl[199]? = some (.code (ax_y 42) (ax_code 42) (ax_maxL 42) (ax_ret 42)) := rfl
set_option maxRecDepth 100000 in
theorem ax_w43 : lw_tbl[860]? = some (.code (ax_y 43) (ax_code 43) (ax_maxL 43) (ax_ret 43)) := rfl
set_option maxRecDepth 100000 in
theorem ax_w44 : lw_tbl[440]? = some (.code (ax_y 44) (ax_code 44) (ax_maxL 44) (ax_ret 44)) := rfl
set_option maxRecDepth 100000 in
theorem ax_w45 : lw_tbl[958]? = some (.code (ax_y 45) (ax_code 45) (ax_maxL 45) (ax_ret 45)) := rfl
set_option maxRecDepth 100000 in
theorem ax_w46 : lw_tbl[751]? = some (.code (ax_y 46) (ax_code 46) (ax_maxL 46) (ax_ret 46)) := rfl
set_option maxRecDepth 100000 in
theorem ax_w47 : lw_tbl[830]? = some (.code (ax_y 47) (ax_code 47) (ax_maxL 47) (ax_ret 47)) := rfl
set_option maxRecDepth 100000 in
theorem ax_w48 : lw_tbl[851]? = some (.code (ax_y 48) (ax_code 48) (ax_maxL 48) (ax_ret 48)) := rfl
set_option maxRecDepth 100000 in
theorem ax_w49 : lw_tbl[875]? = some (.code (ax_y 49) (ax_code 49) (ax_maxL 49) (ax_ret 49)) := rfl
set_option maxRecDepth 100000 in
theorem ax_w50 : lw_tbl[928]? = some (.code (ax_y 50) (ax_code 50) (ax_maxL 50) (ax_ret 50)) := rfl
set_option maxRecDepth 100000 in
theorem ax_w51 : lw_tbl[922]? = some (.code (ax_y 51) (ax_code 51) (ax_maxL 51) (ax_ret 51)) := rfl
set_option maxRecDepth 100000 in
theorem ax_w52 : lw_tbl[948]? = some (.code (ax_y 52) (ax_code 52) (ax_maxL 52) (ax_ret 52)) := rfl
set_option maxRecDepth 100000 in
theorem ax_w53 : lw_tbl[707]? = some (.code (ax_y 53) (ax_code 53) (ax_maxL 53) (ax_ret 53)) := rfl
set_option maxRecDepth 100000 in
theorem ax_w54 : lw_tbl[1113]? = some (.code (ax_y 54) (ax_code 54) (ax_maxL 54) (ax_ret 54)) := rfl
set_option maxRecDepth 100000 in
theorem ax_w55 : lw_tbl[1124]? = some (.code (ax_y 55) (ax_code 55) (ax_maxL 55) (ax_ret 55)) := rfl
set_option maxRecDepth 100000 in
theorem ax_w56 : lw_tbl[1128]? = some (.code (ax_y 56) (ax_code 56) (ax_maxL 56) (ax_ret 56)) := rfl
set_option maxRecDepth 100000 in
theorem ax_w57 : lw_tbl[93]? = some (.code (ax_y 57) (ax_code 57) (ax_maxL 57) (ax_ret 57)) := rfl
set_option maxRecDepth 100000 in
theorem ax_w58 : lw_tbl[372]? = some (.code (ax_y 58) (ax_code 58) (ax_maxL 58) (ax_ret 58)) := rfl
set_option maxRecDepth 100000 in
theorem ax_w59 : lw_tbl[578]? = some (.code (ax_y 59) (ax_code 59) (ax_maxL 59) (ax_ret 59)) := rfl
set_option maxRecDepth 100000 in
theorem ax_w60 : lw_tbl[810]? = some (.code (ax_y 60) (ax_code 60) (ax_maxL 60) (ax_ret 60)) := rfl
set_option maxRecDepth 100000 in
theorem ax_w61 : lw_tbl[819]? = some (.code (ax_y 61) (ax_code 61) (ax_maxL 61) (ax_ret 61)) := rfl
set_option maxRecDepth 100000 in
theorem ax_w62 : lw_tbl[591]? = some (.code (ax_y 62) (ax_code 62) (ax_maxL 62) (ax_ret 62)) := rfl
set_option maxRecDepth 100000 in
theorem ax_w63 : lw_tbl[669]? = some (.code (ax_y 63) (ax_code 63) (ax_maxL 63) (ax_ret 63)) := rfl
set_option maxRecDepth 100000 in
theorem ax_w64 : lw_tbl[880]? = some (.code (ax_y 64) (ax_code 64) (ax_maxL 64) (ax_ret 64)) := rfl
set_option maxRecDepth 100000 in
theorem ax_w65 : lw_tbl[665]? = some (.code (ax_y 65) (ax_code 65) (ax_maxL 65) (ax_ret 65)) := rfl
set_option maxRecDepth 100000 in
theorem ax_w66 : lw_tbl[661]? = some (.code (ax_y 66) (ax_code 66) (ax_maxL 66) (ax_ret 66)) := rfl
set_option maxRecDepth 100000 in
theorem ax_w67 : lw_tbl[677]? = some (.code (ax_y 67) (ax_code 67) (ax_maxL 67) (ax_ret 67)) := rfl
set_option maxRecDepth 100000 in
theorem ax_w68 : lw_tbl[713]? = some (.code (ax_y 68) (ax_code 68) (ax_maxL 68) (ax_ret 68)) := rfl
set_option maxRecDepth 100000 in
theorem ax_w69 : lw_tbl[79]? = some (.code (ax_y 69) (ax_code 69) (ax_maxL 69) (ax_ret 69)) := rfl
set_option maxRecDepth 100000 in
theorem ax_w70 : lw_tbl[790]? = some (.code (ax_y 70) (ax_code 70) (ax_maxL 70) (ax_ret 70)) := rfl
set_option maxRecDepth 100000 in
theorem ax_w71 : lw_tbl[826]? = some (.code (ax_y 71) (ax_code 71) (ax_maxL 71) (ax_ret 71)) := rfl
set_option maxRecDepth 100000 in
theorem ax_w72 : lw_tbl[842]? = some (.code (ax_y 72) (ax_code 72) (ax_maxL 72) (ax_ret 72)) := rfl
set_option maxRecDepth 100000 in
theorem ax_w73 : lw_tbl[867]? = some (.code (ax_y 73) (ax_code 73) (ax_maxL 73) (ax_ret 73)) := rfl
set_option maxRecDepth 100000 in
theorem ax_w74 : lw_tbl[887]? = some (.code (ax_y 74) (ax_code 74) (ax_maxL 74) (ax_ret 74)) := rfl
set_option maxRecDepth 100000 in
theorem ax_w75 : lw_tbl[896]? = some (.code (ax_y 75) (ax_code 75) (ax_maxL 75) (ax_ret 75)) := rfl
set_option maxRecDepth 100000 in
theorem ax_w76 : lw_tbl[910]? = some (.code (ax_y 76) (ax_code 76) (ax_maxL 76) (ax_ret 76)) := rfl
set_option maxRecDepth 100000 in
theorem ax_w77 : lw_tbl[918]? = some (.code (ax_y 77) (ax_code 77) (ax_maxL 77) (ax_ret 77)) := rfl
set_option maxRecDepth 100000 in
theorem ax_w78 : lw_tbl[935]? = some (.code (ax_y 78) (ax_code 78) (ax_maxL 78) (ax_ret 78)) := rfl
set_option maxRecDepth 100000 in
theorem ax_w79 : lw_tbl[943]? = some (.code (ax_y 79) (ax_code 79) (ax_maxL 79) (ax_ret 79)) := rfl
set_option maxRecDepth 100000 in
theorem ax_w80 : lw_tbl[975]? = some (.code (ax_y 80) (ax_code 80) (ax_maxL 80) (ax_ret 80)) := rfl
set_option maxRecDepth 100000 in
theorem ax_w81 : lw_tbl[329]? = some (.code (ax_y 81) (ax_code 81) (ax_maxL 81) (ax_ret 81)) := rfl
set_option maxRecDepth 100000 in
theorem ax_w82 : lw_tbl[337]? = some (.code (ax_y 82) (ax_code 82) (ax_maxL 82) (ax_ret 82)) := rfl
set_option maxRecDepth 100000 in
theorem ax_w83 : lw_tbl[988]? = some (.code (ax_y 83) (ax_code 83) (ax_maxL 83) (ax_ret 83)) := rfl
set_option maxRecDepth 100000 in
theorem ax_w84 : lw_tbl[360]? = some (.code (ax_y 84) (ax_code 84) (ax_maxL 84) (ax_ret 84)) := rfl
set_option maxRecDepth 100000 in
theorem ax_w85 : lw_tbl[768]? = some (.code (ax_y 85) (ax_code 85) (ax_maxL 85) (ax_ret 85)) := rfl
set_option maxRecDepth 100000 in
theorem ax_w86 : lw_tbl[1016]? = some (.code (ax_y 86) (ax_code 86) (ax_maxL 86) (ax_ret 86)) := rfl
set_option maxRecDepth 100000 in
theorem ax_w87 : lw_tbl[364]? = some (.code (ax_y 87) (ax_code 87) (ax_maxL 87) (ax_ret 87)) := rfl
set_option maxRecDepth 100000 in
theorem ax_w88 : lw_tbl[1024]? = some (.code (ax_y 88) (ax_code 88) (ax_maxL 88) (ax_ret 88)) := rfl
set_option maxRecDepth 100000 in
theorem ax_w89 : lw_tbl[395]? = some (.code (ax_y 89) (ax_code 89) (ax_maxL 89) (ax_ret 89)) := rfl
set_option maxRecDepth 100000 in
theorem ax_w90 : lw_tbl[399]? = some (.code (ax_y 90) (ax_code 90) (ax_maxL 90) (ax_ret 90)) := rfl
set_option maxRecDepth 100000 in
theorem ax_w91 : lw_tbl[570]? = some (.code (ax_y 91) (ax_code 91) (ax_maxL 91) (ax_ret 91)) := rfl
set_option maxRecDepth 100000 in
theorem ax_w92 : lw_tbl[583]? = some (.code (ax_y 92) (ax_code 92) (ax_maxL 92) (ax_ret 92)) := rfl
set_option maxRecDepth 100000 in
theorem ax_w93 : lw_tbl[587]? = some (.code (ax_y 93) (ax_code 93) (ax_maxL 93) (ax_ret 93)) := rfl
set_option maxRecDepth 100000 in
theorem ax_w94 : lw_tbl[602]? = some (.code (ax_y 94) (ax_code 94) (ax_maxL 94) (ax_ret 94)) := rfl
set_option maxRecDepth 100000 in
theorem ax_w95 : lw_tbl[613]? = some (.code (ax_y 95) (ax_code 95) (ax_maxL 95) (ax_ret 95)) := rfl
set_option maxRecDepth 100000 in
theorem ax_w96 : lw_tbl[621]? = some (.code (ax_y 96) (ax_code 96) (ax_maxL 96) (ax_ret 96)) := rfl
set_option maxRecDepth 100000 in
theorem ax_w97 : lw_tbl[625]? = some (.code (ax_y 97) (ax_code 97) (ax_maxL 97) (ax_ret 97)) := rfl
set_option maxRecDepth 100000 in
theorem ax_w98 : lw_tbl[629]? = some (.code (ax_y 98) (ax_code 98) (ax_maxL 98) (ax_ret 98)) := rfl
set_option maxRecDepth 100000 in
theorem ax_w99 : lw_tbl[649]? = some (.code (ax_y 99) (ax_code 99) (ax_maxL 99) (ax_ret 99)) := rfl
set_option maxRecDepth 100000 in
theorem ax_w100 : lw_tbl[653]? = some (.code (ax_y 100) (ax_code 100) (ax_maxL 100) (ax_ret 100)) := rfl
set_option maxRecDepth 100000 in
theorem ax_w101 : lw_tbl[403]? = some (.code (ax_y 101) (ax_code 101) (ax_maxL 101) (ax_ret 101)) := rfl
set_option maxRecDepth 100000 in
theorem ax_w102 : lw_tbl[721]? = some (.code (ax_y 102) (ax_code 102) (ax_maxL 102) (ax_ret 102)) := rfl
set_option maxRecDepth 100000 in
theorem ax_w103 : lw_tbl[739]? = some (.code (ax_y 103) (ax_code 103) (ax_maxL 103) (ax_ret 103)) := rfl
set_option maxRecDepth 100000 in
theorem ax_w104 : lw_tbl[761]? = some (.code (ax_y 104) (ax_code 104) (ax_maxL 104) (ax_ret 104)) := rfl
set_option maxRecDepth 100000 in
theorem ax_w105 : lw_tbl[747]? = some (.code (ax_y 105) (ax_code 105) (ax_maxL 105) (ax_ret 105)) := rfl
set_option maxRecDepth 100000 in
theorem ax_w106 : lw_tbl[483]? = some (.code (ax_y 106) (ax_code 106) (ax_maxL 106) (ax_ret 106)) := rfl
set_option maxRecDepth 100000 in
theorem ax_w107 : lw_tbl[558]? = some (.code (ax_y 107) (ax_code 107) (ax_maxL 107) (ax_ret 107)) := rfl
set_option maxRecDepth 100000 in
theorem ax_w108 : lw_tbl[407]? = some (.code (ax_y 108) (ax_code 108) (ax_maxL 108) (ax_ret 108)) := rfl
set_option maxRecDepth 100000 in
theorem ax_w109 : lw_tbl[411]? = some (.code (ax_y 109) (ax_code 109) (ax_maxL 109) (ax_ret 109)) := rfl
set_option maxRecDepth 100000 in
theorem ax_w110 : lw_tbl[415]? = some (.code (ax_y 110) (ax_code 110) (ax_maxL 110) (ax_ret 110)) := rfl
set_option maxRecDepth 100000 in
theorem ax_w111 : lw_tbl[424]? = some (.code (ax_y 111) (ax_code 111) (ax_maxL 111) (ax_ret 111)) := rfl
set_option maxRecDepth 100000 in
theorem ax_w112 : lw_tbl[436]? = some (.code (ax_y 112) (ax_code 112) (ax_maxL 112) (ax_ret 112)) := rfl
set_option maxRecDepth 100000 in
theorem ax_w113 : lw_tbl[657]? = some (.code (ax_y 113) (ax_code 113) (ax_maxL 113) (ax_ret 113)) := rfl
set_option maxRecDepth 100000 in
theorem ax_w114 : lw_tbl[673]? = some (.code (ax_y 114) (ax_code 114) (ax_maxL 114) (ax_ret 114)) := rfl
set_option maxRecDepth 100000 in
theorem ax_w115 : lw_tbl[699]? = some (.code (ax_y 115) (ax_code 115) (ax_maxL 115) (ax_ret 115)) := rfl
set_option maxRecDepth 100000 in
theorem ax_w116 : lw_tbl[1108]? = some (.code (ax_y 116) (ax_code 116) (ax_maxL 116) (ax_ret 116)) := rfl
set_option maxRecDepth 100000 in
theorem ax_w117 : lw_tbl[1120]? = some (.code (ax_y 117) (ax_code 117) (ax_maxL 117) (ax_ret 117)) := rfl
set_option maxRecDepth 100000 in
theorem ax_w118 : lw_tbl[1137]? = some (.code (ax_y 118) (ax_code 118) (ax_maxL 118) (ax_ret 118)) := rfl
set_option maxRecDepth 100000 in
theorem ax_w119 : lw_tbl[681]? = some (.code (ax_y 119) (ax_code 119) (ax_maxL 119) (ax_ret 119)) := rfl
set_option maxRecDepth 100000 in
theorem ax_w120 : lw_tbl[449]? = some (.code (ax_y 120) (ax_code 120) (ax_maxL 120) (ax_ret 120)) := rfl
set_option maxRecDepth 100000 in
theorem ax_w121 : lw_tbl[458]? = some (.code (ax_y 121) (ax_code 121) (ax_maxL 121) (ax_ret 121)) := rfl
set_option maxRecDepth 100000 in
theorem ax_w122 : lw_tbl[463]? = some (.code (ax_y 122) (ax_code 122) (ax_maxL 122) (ax_ret 122)) := rfl
set_option maxRecDepth 100000 in
theorem ax_w123 : lw_tbl[702]? = some (.code (ax_y 123) (ax_code 123) (ax_maxL 123) (ax_ret 123)) := rfl
set_option maxRecDepth 100000 in
theorem ax_w124 : lw_tbl[605]? = some (.code (ax_y 124) (ax_code 124) (ax_maxL 124) (ax_ret 124)) := rfl
set_option maxRecDepth 100000 in
theorem ax_w125 : lw_tbl[486]? = some (.code (ax_y 125) (ax_code 125) (ax_maxL 125) (ax_ret 125)) := rfl
set_option maxRecDepth 100000 in
theorem ax_w126 : lw_tbl[574]? = some (.code (ax_y 126) (ax_code 126) (ax_maxL 126) (ax_ret 126)) := rfl
set_option maxRecDepth 100000 in
theorem ax_w127 : lw_tbl[725]? = some (.code (ax_y 127) (ax_code 127) (ax_maxL 127) (ax_ret 127)) := rfl
set_option maxRecDepth 100000 in
theorem ax_w128 : lw_tbl[608]? = some (.code (ax_y 128) (ax_code 128) (ax_maxL 128) (ax_ret 128)) := rfl
set_option maxRecDepth 100000 in
theorem ax_w129 : lw_tbl[870]? = some (.code (ax_y 129) (ax_code 129) (ax_maxL 129) (ax_ret 129)) := rfl
set_option maxRecDepth 100000 in
theorem ax_w130 : lw_tbl[565]? = some (.code (ax_y 130) (ax_code 130) (ax_maxL 130) (ax_ret 130)) := rfl
set_option maxRecDepth 100000 in
theorem ax_w131 : lw_tbl[815]? = some (.code (ax_y 131) (ax_code 131) (ax_maxL 131) (ax_ret 131)) := rfl
set_option maxRecDepth 100000 in
theorem ax_w132 : lw_tbl[997]? = some (.code (ax_y 132) (ax_code 132) (ax_maxL 132) (ax_ret 132)) := rfl
set_option maxRecDepth 100000 in
theorem ax_w133 : lw_tbl[1005]? = some (.code (ax_y 133) (ax_code 133) (ax_maxL 133) (ax_ret 133)) := rfl
set_option maxRecDepth 100000 in
theorem ax_w134 : lw_tbl[468]? = some (.code (ax_y 134) (ax_code 134) (ax_maxL 134) (ax_ret 134)) := rfl
set_option maxRecDepth 100000 in
theorem ax_w135 : lw_tbl[598]? = some (.code (ax_y 135) (ax_code 135) (ax_maxL 135) (ax_ret 135)) := rfl
set_option maxRecDepth 100000 in
theorem ax_w136 : lw_tbl[717]? = some (.code (ax_y 136) (ax_code 136) (ax_maxL 136) (ax_ret 136)) := rfl
set_option maxRecDepth 100000 in
theorem ax_w137 : lw_tbl[472]? = some (.code (ax_y 137) (ax_code 137) (ax_maxL 137) (ax_ret 137)) := rfl
set_option maxRecDepth 100000 in
theorem ax_w138 : lw_tbl[594]? = some (.code (ax_y 138) (ax_code 138) (ax_maxL 138) (ax_ret 138)) := rfl
set_option maxRecDepth 100000 in
theorem ax_w139 : lw_tbl[773]? = some (.code (ax_y 139) (ax_code 139) (ax_maxL 139) (ax_ret 139)) := rfl
set_option maxRecDepth 100000 in
theorem ax_w140 : lw_tbl[778]? = some (.code (ax_y 140) (ax_code 140) (ax_maxL 140) (ax_ret 140)) := rfl
set_option maxRecDepth 100000 in
theorem ax_w141 : lw_tbl[1146]? = some (.code (ax_y 141) (ax_code 141) (ax_maxL 141) (ax_ret 141)) := rfl
set_option maxRecDepth 100000 in
theorem ax_w142 : lw_tbl[1222]? = some (.code (ax_y 142) (ax_code 142) (ax_maxL 142) (ax_ret 142)) := rfl
set_option maxRecDepth 100000 in
theorem ax_w143 : lw_tbl[1236]? = some (.code (ax_y 143) (ax_code 143) (ax_maxL 143) (ax_ret 143)) := rfl
set_option maxRecDepth 100000 in
theorem ax_w144 : lw_tbl[1232]? = some (.code (ax_y 144) (ax_code 144) (ax_maxL 144) (ax_ret 144)) := rfl
set_option maxRecDepth 100000 in
theorem ax_w145 : lw_tbl[1229]? = some (.code (ax_y 145) (ax_code 145) (ax_maxL 145) (ax_ret 145)) := rfl
set_option maxRecDepth 100000 in
theorem ax_w146 : lw_tbl[1271]? = some (.code (ax_y 146) (ax_code 146) (ax_maxL 146) (ax_ret 146)) := rfl
set_option maxRecDepth 100000 in
theorem ax_w147 : lw_tbl[1256]? = some (.code (ax_y 147) (ax_code 147) (ax_maxL 147) (ax_ret 147)) := rfl
set_option maxRecDepth 100000 in
theorem ax_w148 : lw_tbl[1479]? = some (.code (ax_y 148) (ax_code 148) (ax_maxL 148) (ax_ret 148)) := rfl
set_option maxRecDepth 100000 in
theorem ax_w149 : lw_tbl[1248]? = some (.code (ax_y 149) (ax_code 149) (ax_maxL 149) (ax_ret 149)) := rfl
set_option maxRecDepth 100000 in
theorem ax_w150 : lw_tbl[1163]? = some (.code (ax_y 150) (ax_code 150) (ax_maxL 150) (ax_ret 150)) := rfl
set_option maxRecDepth 100000 in
theorem ax_w151 : lw_tbl[1151]? = some (.code (ax_y 151) (ax_code 151) (ax_maxL 151) (ax_ret 151)) := rfl
set_option maxRecDepth 100000 in
theorem ax_w152 : lw_tbl[1171]? = some (.code (ax_y 152) (ax_code 152) (ax_maxL 152) (ax_ret 152)) := rfl
set_option maxRecDepth 100000 in
theorem ax_w153 : lw_tbl[1303]? = some (.code (ax_y 153) (ax_code 153) (ax_maxL 153) (ax_ret 153)) := rfl
set_option maxRecDepth 100000 in
theorem ax_w154 : lw_tbl[1240]? = some (.code (ax_y 154) (ax_code 154) (ax_maxL 154) (ax_ret 154)) := rfl
set_option maxRecDepth 100000 in
theorem ax_w155 : lw_tbl[1244]? = some (.code (ax_y 155) (ax_code 155) (ax_maxL 155) (ax_ret 155)) := rfl
set_option maxRecDepth 100000 in
theorem ax_w156 : lw_tbl[1291]? = some (.code (ax_y 156) (ax_code 156) (ax_maxL 156) (ax_ret 156)) := rfl
set_option maxRecDepth 100000 in
theorem ax_w157 : lw_tbl[1264]? = some (.code (ax_y 157) (ax_code 157) (ax_maxL 157) (ax_ret 157)) := rfl
set_option maxRecDepth 100000 in
theorem ax_w158 : lw_tbl[1283]? = some (.code (ax_y 158) (ax_code 158) (ax_maxL 158) (ax_ret 158)) := rfl
set_option maxRecDepth 100000 in
theorem ax_w159 : lw_tbl[1287]? = some (.code (ax_y 159) (ax_code 159) (ax_maxL 159) (ax_ret 159)) := rfl
set_option maxRecDepth 100000 in
theorem ax_w160 : lw_tbl[1363]? = some (.code (ax_y 160) (ax_code 160) (ax_maxL 160) (ax_ret 160)) := rfl
set_option maxRecDepth 100000 in
theorem ax_w161 : lw_tbl[1167]? = some (.code (ax_y 161) (ax_code 161) (ax_maxL 161) (ax_ret 161)) := rfl
set_option maxRecDepth 100000 in
theorem ax_w162 : lw_tbl[1159]? = some (.code (ax_y 162) (ax_code 162) (ax_maxL 162) (ax_ret 162)) := rfl
set_option maxRecDepth 100000 in
theorem ax_w163 : lw_tbl[1175]? = some (.code (ax_y 163) (ax_code 163) (ax_maxL 163) (ax_ret 163)) := rfl
set_option maxRecDepth 100000 in
theorem ax_w164 : lw_tbl[1155]? = some (.code (ax_y 164) (ax_code 164) (ax_maxL 164) (ax_ret 164)) := rfl
set_option maxRecDepth 100000 in
theorem ax_w165 : lw_tbl[1275]? = some (.code (ax_y 165) (ax_code 165) (ax_maxL 165) (ax_ret 165)) := rfl
set_option maxRecDepth 100000 in
theorem ax_w166 : lw_tbl[1323]? = some (.code (ax_y 166) (ax_code 166) (ax_maxL 166) (ax_ret 166)) := rfl
set_option maxRecDepth 100000 in
theorem ax_w167 : lw_tbl[1523]? = some (.code (ax_y 167) (ax_code 167) (ax_maxL 167) (ax_ret 167)) := rfl
set_option maxRecDepth 100000 in
theorem ax_w168 : lw_tbl[1319]? = some (.code (ax_y 168) (ax_code 168) (ax_maxL 168) (ax_ret 168)) := rfl
set_option maxRecDepth 100000 in
theorem ax_w169 : lw_tbl[1315]? = some (.code (ax_y 169) (ax_code 169) (ax_maxL 169) (ax_ret 169)) := rfl
set_option maxRecDepth 100000 in
theorem ax_w170 : lw_tbl[1347]? = some (.code (ax_y 170) (ax_code 170) (ax_maxL 170) (ax_ret 170)) := rfl
set_option maxRecDepth 100000 in
theorem ax_w171 : lw_tbl[1343]? = some (.code (ax_y 171) (ax_code 171) (ax_maxL 171) (ax_ret 171)) := rfl
set_option maxRecDepth 100000 in
theorem ax_w172 : lw_tbl[1339]? = some (.code (ax_y 172) (ax_code 172) (ax_maxL 172) (ax_ret 172)) := rfl
set_option maxRecDepth 100000 in
theorem ax_w173 : lw_tbl[1355]? = some (.code (ax_y 173) (ax_code 173) (ax_maxL 173) (ax_ret 173)) := rfl
set_option maxRecDepth 100000 in
theorem ax_w174 : lw_tbl[1359]? = some (.code (ax_y 174) (ax_code 174) (ax_maxL 174) (ax_ret 174)) := rfl
set_option maxRecDepth 100000 in
theorem ax_w175 : lw_tbl[1351]? = some (.code (ax_y 175) (ax_code 175) (ax_maxL 175) (ax_ret 175)) := rfl
set_option maxRecDepth 100000 in
theorem ax_w176 : lw_tbl[1335]? = some (.code (ax_y 176) (ax_code 176) (ax_maxL 176) (ax_ret 176)) := rfl
set_option maxRecDepth 100000 in
theorem ax_w177 : lw_tbl[1260]? = some (.code (ax_y 177) (ax_code 177) (ax_maxL 177) (ax_ret 177)) := rfl
set_option maxRecDepth 100000 in
theorem ax_w178 : lw_tbl[1226]? = some (.code (ax_y 178) (ax_code 178) (ax_maxL 178) (ax_ret 178)) := rfl
set_option maxRecDepth 100000 in
theorem ax_w179 : lw_tbl[1252]? = some (.code (ax_y 179) (ax_code 179) (ax_maxL 179) (ax_ret 179)) := rfl
set_option maxRecDepth 100000 in
theorem ax_w180 : lw_tbl[1268]? = some (.code (ax_y 180) (ax_code 180) (ax_maxL 180) (ax_ret 180)) := rfl
set_option maxRecDepth 100000 in
theorem ax_w181 : lw_tbl[1279]? = some (.code (ax_y 181) (ax_code 181) (ax_maxL 181) (ax_ret 181)) := rfl
set_option maxRecDepth 100000 in
theorem ax_w182 : lw_tbl[1295]? = some (.code (ax_y 182) (ax_code 182) (ax_maxL 182) (ax_ret 182)) := rfl
set_option maxRecDepth 100000 in
theorem ax_w183 : lw_tbl[1299]? = some (.code (ax_y 183) (ax_code 183) (ax_maxL 183) (ax_ret 183)) := rfl
set_option maxRecDepth 100000 in
theorem ax_w184 : lw_tbl[1307]? = some (.code (ax_y 184) (ax_code 184) (ax_maxL 184) (ax_ret 184)) := rfl
set_option maxRecDepth 100000 in
theorem ax_w185 : lw_tbl[1311]? = some (.code (ax_y 185) (ax_code 185) (ax_maxL 185) (ax_ret 185)) := rfl
set_option maxRecDepth 100000 in
theorem ax_w186 : lw_tbl[1327]? = some (.code (ax_y 186) (ax_code 186) (ax_maxL 186) (ax_ret 186)) := rfl
set_option maxRecDepth 100000 in
theorem ax_w187 : lw_tbl[1331]? = some (.code (ax_y 187) (ax_code 187) (ax_maxL 187) (ax_ret 187)) := rfl
set_option maxRecDepth 100000 in
theorem ax_w188 : lw_tbl[1367]? = some (.code (ax_y 188) (ax_code 188) (ax_maxL 188) (ax_ret 188)) := rfl
set_option maxRecDepth 100000 in
theorem ax_w189 : lw_tbl[1371]? = some (.code (ax_y 189) (ax_code 189) (ax_maxL 189) (ax_ret 189)) := rfl
set_option maxRecDepth 100000 in
theorem ax_w190 : lw_tbl[1387]? = some (.code (ax_y 190) (ax_code 190) (ax_maxL 190) (ax_ret 190)) := rfl
set_option maxRecDepth 100000 in
theorem ax_w191 : lw_tbl[1391]? = some (.code (ax_y 191) (ax_code 191) (ax_maxL 191) (ax_ret 191)) := rfl
set_option maxRecDepth 100000 in
theorem ax_w192 : lw_tbl[1383]? = some (.code (ax_y 192) (ax_code 192) (ax_maxL 192) (ax_ret 192)) := rfl
set_option maxRecDepth 100000 in
theorem ax_w193 : lw_tbl[1379]? = some (.code (ax_y 193) (ax_code 193) (ax_maxL 193) (ax_ret 193)) := rfl
set_option maxRecDepth 100000 in
theorem ax_w194 : lw_tbl[1375]? = some (.code (ax_y 194) (ax_code 194) (ax_maxL 194) (ax_ret 194)) := rfl
set_option maxRecDepth 100000 in
theorem ax_w195 : lw_tbl[1395]? = some (.code (ax_y 195) (ax_code 195) (ax_maxL 195) (ax_ret 195)) := rfl
set_option maxRecDepth 100000 in
theorem ax_w196 : lw_tbl[1399]? = some (.code (ax_y 196) (ax_code 196) (ax_maxL 196) (ax_ret 196)) := rfl
set_option maxRecDepth 100000 in
theorem ax_w197 : lw_tbl[1403]? = some (.code (ax_y 197) (ax_code 197) (ax_maxL 197) (ax_ret 197)) := rfl
set_option maxRecDepth 100000 in
theorem ax_w198 : lw_tbl[1407]? = some (.code (ax_y 198) (ax_code 198) (ax_maxL 198) (ax_ret 198)) := rfl
set_option maxRecDepth 100000 in
theorem ax_w199 : lw_tbl[1411]? = some (.code (ax_y 199) (ax_code 199) (ax_maxL 199) (ax_ret 199)) := rfl
set_option maxRecDepth 100000 in
theorem ax_w200 : lw_tbl[1415]? = some (.code (ax_y 200) (ax_code 200) (ax_maxL 200) (ax_ret 200)) := rfl
set_option maxRecDepth 100000 in
theorem ax_w201 : lw_tbl[1419]? = some (.code (ax_y 201) (ax_code 201) (ax_maxL 201) (ax_ret 201)) := rfl
set_option maxRecDepth 100000 in
theorem ax_w202 : lw_tbl[1423]? = some (.code (ax_y 202) (ax_code 202) (ax_maxL 202) (ax_ret 202)) := rfl
set_option maxRecDepth 100000 in
theorem ax_w203 : lw_tbl[1427]? = some (.code (ax_y 203) (ax_code 203) (ax_maxL 203) (ax_ret 203)) := rfl
set_option maxRecDepth 100000 in
theorem ax_w204 : lw_tbl[1431]? = some (.code (ax_y 204) (ax_code 204) (ax_maxL 204) (ax_ret 204)) := rfl
set_option maxRecDepth 100000 in
theorem ax_w205 : lw_tbl[1435]? = some (.code (ax_y 205) (ax_code 205) (ax_maxL 205) (ax_ret 205)) := rfl
set_option maxRecDepth 100000 in
theorem ax_w206 : lw_tbl[1443]? = some (.code (ax_y 206) (ax_code 206) (ax_maxL 206) (ax_ret 206)) := rfl
set_option maxRecDepth 100000 in
theorem ax_w207 : lw_tbl[1439]? = some (.code (ax_y 207) (ax_code 207) (ax_maxL 207) (ax_ret 207)) := rfl
set_option maxRecDepth 100000 in
theorem ax_w208 : lw_tbl[1447]? = some (.code (ax_y 208) (ax_code 208) (ax_maxL 208) (ax_ret 208)) := rfl
set_option maxRecDepth 100000 in
theorem ax_w209 : lw_tbl[1451]? = some (.code (ax_y 209) (ax_code 209) (ax_maxL 209) (ax_ret 209)) := rfl
set_option maxRecDepth 100000 in
theorem ax_w210 : lw_tbl[1455]? = some (.code (ax_y 210) (ax_code 210) (ax_maxL 210) (ax_ret 210)) := rfl
set_option maxRecDepth 100000 in
theorem ax_w211 : lw_tbl[1459]? = some (.code (ax_y 211) (ax_code 211) (ax_maxL 211) (ax_ret 211)) := rfl
set_option maxRecDepth 100000 in
theorem ax_w212 : lw_tbl[1463]? = some (.code (ax_y 212) (ax_code 212) (ax_maxL 212) (ax_ret 212)) := rfl
set_option maxRecDepth 100000 in
theorem ax_w213 : lw_tbl[1467]? = some (.code (ax_y 213) (ax_code 213) (ax_maxL 213) (ax_ret 213)) := rfl
set_option maxRecDepth 100000 in
theorem ax_w214 : lw_tbl[1471]? = some (.code (ax_y 214) (ax_code 214) (ax_maxL 214) (ax_ret 214)) := rfl
set_option maxRecDepth 100000 in
theorem ax_w215 : lw_tbl[1475]? = some (.code (ax_y 215) (ax_code 215) (ax_maxL 215) (ax_ret 215)) := rfl
set_option maxRecDepth 100000 in
theorem ax_w216 : lw_tbl[1483]? = some (.code (ax_y 216) (ax_code 216) (ax_maxL 216) (ax_ret 216)) := rfl
set_option maxRecDepth 100000 in
theorem ax_w217 : lw_tbl[1487]? = some (.code (ax_y 217) (ax_code 217) (ax_maxL 217) (ax_ret 217)) := rfl
set_option maxRecDepth 100000 in
theorem ax_w218 : lw_tbl[1495]? = some (.code (ax_y 218) (ax_code 218) (ax_maxL 218) (ax_ret 218)) := rfl
set_option maxRecDepth 100000 in
theorem ax_w219 : lw_tbl[1491]? = some (.code (ax_y 219) (ax_code 219) (ax_maxL 219) (ax_ret 219)) := rfl
set_option maxRecDepth 100000 in
theorem ax_w220 : lw_tbl[1499]? = some (.code (ax_y 220) (ax_code 220) (ax_maxL 220) (ax_ret 220)) := rfl
set_option maxRecDepth 100000 in
theorem ax_w221 : lw_tbl[1503]? = some (.code (ax_y 221) (ax_code 221) (ax_maxL 221) (ax_ret 221)) := rfl
set_option maxRecDepth 100000 in
theorem ax_w222 : lw_tbl[1507]? = some (.code (ax_y 222) (ax_code 222) (ax_maxL 222) (ax_ret 222)) := rfl
set_option maxRecDepth 100000 in
theorem ax_w223 : lw_tbl[1511]? = some (.code (ax_y 223) (ax_code 223) (ax_maxL 223) (ax_ret 223)) := rfl
set_option maxRecDepth 100000 in
theorem ax_w224 : lw_tbl[1515]? = some (.code (ax_y 224) (ax_code 224) (ax_maxL 224) (ax_ret 224)) := rfl
set_option maxRecDepth 100000 in
theorem ax_w225 : lw_tbl[1519]? = some (.code (ax_y 225) (ax_code 225) (ax_maxL 225) (ax_ret 225)) := rfl
set_option maxRecDepth 100000 in
theorem ax_w226 : lw_tbl[1527]? = some (.code (ax_y 226) (ax_code 226) (ax_maxL 226) (ax_ret 226)) := rfl
set_option maxRecDepth 100000 in
theorem ax_w227 : lw_tbl[1539]? = some (.code (ax_y 227) (ax_code 227) (ax_maxL 227) (ax_ret 227)) := rfl
set_option maxRecDepth 100000 in
theorem ax_w228 : lw_tbl[1535]? = some (.code (ax_y 228) (ax_code 228) (ax_maxL 228) (ax_ret 228)) := rfl
set_option maxRecDepth 100000 in
theorem ax_w229 : lw_tbl[1531]? = some (.code (ax_y 229) (ax_code 229) (ax_maxL 229) (ax_ret 229)) := rfl
set_option maxRecDepth 100000 in
theorem ax_w230 : lw_tbl[1543]? = some (.code (ax_y 230) (ax_code 230) (ax_maxL 230) (ax_ret 230)) := rfl
set_option maxRecDepth 100000 in
theorem ax_w231 : lw_tbl[1551]? = some (.code (ax_y 231) (ax_code 231) (ax_maxL 231) (ax_ret 231)) := rfl
set_option maxRecDepth 100000 in
theorem ax_w232 : lw_tbl[1547]? = some (.code (ax_y 232) (ax_code 232) (ax_maxL 232) (ax_ret 232)) := rfl
set_option maxRecDepth 100000 in
theorem ax_w233 : lw_tbl[1555]? = some (.code (ax_y 233) (ax_code 233) (ax_maxL 233) (ax_ret 233)) := rfl
set_option maxRecDepth 100000 in
theorem ax_w234 : lw_tbl[1559]? = some (.code (ax_y 234) (ax_code 234) (ax_maxL 234) (ax_ret 234)) := rfl
set_option maxRecDepth 100000 in
theorem ax_w235 : lw_tbl[1563]? = some (.code (ax_y 235) (ax_code 235) (ax_maxL 235) (ax_ret 235)) := rfl
set_option maxRecDepth 100000 in
theorem ax_w236 : lw_tbl[1567]? = some (.code (ax_y 236) (ax_code 236) (ax_maxL 236) (ax_ret 236)) := rfl
set_option maxRecDepth 100000 in
theorem ax_w237 : lw_tbl[1575]? = some (.code (ax_y 237) (ax_code 237) (ax_maxL 237) (ax_ret 237)) := rfl
set_option maxRecDepth 100000 in
theorem ax_w238 : lw_tbl[1584]? = some (.code (ax_y 238) (ax_code 238) (ax_maxL 238) (ax_ret 238)) := rfl
set_option maxRecDepth 100000 in
theorem ax_w239 : lw_tbl[1571]? = some (.code (ax_y 239) (ax_code 239) (ax_maxL 239) (ax_ret 239)) := rfl
set_option maxRecDepth 100000 in
theorem ax_w240 : lw_tbl[1580]? = some (.code (ax_y 240) (ax_code 240) (ax_maxL 240) (ax_ret 240)) := rfl
set_option maxRecDepth 100000 in
theorem ax_w241 : lw_tbl[1601]? = some (.code (ax_y 241) (ax_code 241) (ax_maxL 241) (ax_ret 241)) := rfl
set_option maxRecDepth 100000 in
theorem ax_w242 : lw_tbl[1593]? = some (.code (ax_y 242) (ax_code 242) (ax_maxL 242) (ax_ret 242)) := rfl
set_option maxRecDepth 100000 in
theorem ax_w243 : lw_tbl[1598]? = some (.code (ax_y 243) (ax_code 243) (ax_maxL 243) (ax_ret 243)) := rfl
set_option maxRecDepth 100000 in
theorem ax_w244 : lw_tbl[1588]? = some (.code (ax_y 244) (ax_code 244) (ax_maxL 244) (ax_ret 244)) := rfl
set_option maxRecDepth 100000 in
theorem ax_w245 : lw_tbl[783]? = some (.codeWith (ax_y 245) (ax_code 245) (ax_maxL 245) (ax_ret 245) (ax_hh 245)) := rfl
set_option maxRecDepth 100000 in
theorem ax_w246 : lw_tbl[822]? = some (.codeWith (ax_y 246) (ax_code 246) (ax_maxL 246) (ax_ret 246) (ax_hh 246)) := rfl
set_option maxRecDepth 100000 in
theorem ax_w247 : lw_tbl[838]? = some (.codeWith (ax_y 247) (ax_code 247) (ax_maxL 247) (ax_ret 247) (ax_hh 247)) := rfl
set_option maxRecDepth 100000 in
theorem ax_w248 : lw_tbl[863]? = some (.codeWith (ax_y 248) (ax_code 248) (ax_maxL 248) (ax_ret 248) (ax_hh 248)) := rfl
set_option maxRecDepth 100000 in
theorem ax_w249 : lw_tbl[883]? = some (.codeWith (ax_y 249) (ax_code 249) (ax_maxL 249) (ax_ret 249) (ax_hh 249)) := rfl
set_option maxRecDepth 100000 in
theorem ax_w250 : lw_tbl[892]? = some (.codeWith (ax_y 250) (ax_code 250) (ax_maxL 250) (ax_ret 250) (ax_hh 250)) := rfl
set_option maxRecDepth 100000 in
theorem ax_w251 : lw_tbl[906]? = some (.codeWith (ax_y 251) (ax_code 251) (ax_maxL 251) (ax_ret 251) (ax_hh 251)) := rfl
set_option maxRecDepth 100000 in
theorem ax_w252 : lw_tbl[914]? = some (.codeWith (ax_y 252) (ax_code 252) (ax_maxL 252) (ax_ret 252) (ax_hh 252)) := rfl
set_option maxRecDepth 100000 in
theorem ax_w253 : lw_tbl[931]? = some (.codeWith (ax_y 253) (ax_code 253) (ax_maxL 253) (ax_ret 253) (ax_hh 253)) := rfl
set_option maxRecDepth 100000 in
theorem ax_w254 : lw_tbl[939]? = some (.codeWith (ax_y 254) (ax_code 254) (ax_maxL 254) (ax_ret 254) (ax_hh 254)) := rfl
set_option maxRecDepth 100000 in
theorem ax_w255 : lw_tbl[971]? = some (.codeWith (ax_y 255) (ax_code 255) (ax_maxL 255) (ax_ret 255) (ax_hh 255)) := rfl
set_option maxRecDepth 100000 in
theorem ax_w256 : lw_tbl[984]? = some (.codeWith (ax_y 256) (ax_code 256) (ax_maxL 256) (ax_ret 256) (ax_hh 256)) := rfl
set_option maxRecDepth 100000 in
theorem ax_w257 : lw_tbl[1008]? = some (.codeWith (ax_y 257) (ax_code 257) (ax_maxL 257) (ax_ret 257) (ax_hh 257)) := rfl
set_option maxRecDepth 100000 in
theorem ax_w258 : lw_tbl[1012]? = some (.codeWith (ax_y 258) (ax_code 258) (ax_maxL 258) (ax_ret 258) (ax_hh 258)) := rfl
set_option maxRecDepth 100000 in
theorem ax_w259 : lw_tbl[1020]? = some (.codeWith (ax_y 259) (ax_code 259) (ax_maxL 259) (ax_ret 259) (ax_hh 259)) := rfl
set_option maxRecDepth 100000 in
theorem ax_w260 : lw_tbl[1028]? = some (.codeWith (ax_y 260) (ax_code 260) (ax_maxL 260) (ax_ret 260) (ax_hh 260)) := rfl
set_option maxRecDepth 100000 in
theorem ax_w261 : lw_tbl[1032]? = some (.codeWith (ax_y 261) (ax_code 261) (ax_maxL 261) (ax_ret 261) (ax_hh 261)) := rfl
set_option maxRecDepth 100000 in
theorem ax_w262 : lw_tbl[1036]? = some (.codeWith (ax_y 262) (ax_code 262) (ax_maxL 262) (ax_ret 262) (ax_hh 262)) := rfl
set_option maxRecDepth 100000 in
theorem ax_w263 : lw_tbl[1040]? = some (.codeWith (ax_y 263) (ax_code 263) (ax_maxL 263) (ax_ret 263) (ax_hh 263)) := rfl
set_option maxRecDepth 100000 in
theorem ax_w264 : lw_tbl[1044]? = some (.codeWith (ax_y 264) (ax_code 264) (ax_maxL 264) (ax_ret 264) (ax_hh 264)) := rfl
set_option maxRecDepth 100000 in
theorem ax_w265 : lw_tbl[1048]? = some (.codeWith (ax_y 265) (ax_code 265) (ax_maxL 265) (ax_ret 265) (ax_hh 265)) := rfl
set_option maxRecDepth 100000 in
theorem ax_w266 : lw_tbl[1052]? = some (.codeWith (ax_y 266) (ax_code 266) (ax_maxL 266) (ax_ret 266) (ax_hh 266)) := rfl
set_option maxRecDepth 100000 in
theorem ax_w267 : lw_tbl[1056]? = some (.codeWith (ax_y 267) (ax_code 267) (ax_maxL 267) (ax_ret 267) (ax_hh 267)) := rfl
set_option maxRecDepth 100000 in
theorem ax_w268 : lw_tbl[1060]? = some (.codeWith (ax_y 268) (ax_code 268) (ax_maxL 268) (ax_ret 268) (ax_hh 268)) := rfl
set_option maxRecDepth 100000 in
theorem ax_w269 : lw_tbl[1064]? = some (.codeWith (ax_y 269) (ax_code 269) (ax_maxL 269) (ax_ret 269) (ax_hh 269)) := rfl
set_option maxRecDepth 100000 in
theorem ax_w270 : lw_tbl[1068]? = some (.codeWith (ax_y 270) (ax_code 270) (ax_maxL 270) (ax_ret 270) (ax_hh 270)) := rfl
set_option maxRecDepth 100000 in
theorem ax_w271 : lw_tbl[1072]? = some (.codeWith (ax_y 271) (ax_code 271) (ax_maxL 271) (ax_ret 271) (ax_hh 271)) := rfl
set_option maxRecDepth 100000 in
theorem ax_w272 : lw_tbl[1076]? = some (.codeWith (ax_y 272) (ax_code 272) (ax_maxL 272) (ax_ret 272) (ax_hh 272)) := rfl
set_option maxRecDepth 100000 in
theorem ax_w273 : lw_tbl[1080]? = some (.codeWith (ax_y 273) (ax_code 273) (ax_maxL 273) (ax_ret 273) (ax_hh 273)) := rfl
set_option maxRecDepth 100000 in
theorem ax_w274 : lw_tbl[1084]? = some (.codeWith (ax_y 274) (ax_code 274) (ax_maxL 274) (ax_ret 274) (ax_hh 274)) := rfl
set_option maxRecDepth 100000 in
theorem ax_w275 : lw_tbl[1088]? = some (.codeWith (ax_y 275) (ax_code 275) (ax_maxL 275) (ax_ret 275) (ax_hh 275)) := rfl
set_option maxRecDepth 100000 in
theorem ax_w276 : lw_tbl[1092]? = some (.codeWith (ax_y 276) (ax_code 276) (ax_maxL 276) (ax_ret 276) (ax_hh 276)) := rfl
set_option maxRecDepth 100000 in
theorem ax_w277 : lw_tbl[1096]? = some (.codeWith (ax_y 277) (ax_code 277) (ax_maxL 277) (ax_ret 277) (ax_hh 277)) := rfl
set_option maxRecDepth 100000 in
theorem ax_w278 : lw_tbl[1100]? = some (.codeWith (ax_y 278) (ax_code 278) (ax_maxL 278) (ax_ret 278) (ax_hh 278)) := rfl
set_option maxRecDepth 100000 in
theorem ax_w279 : lw_tbl[1104]? = some (.codeWith (ax_y 279) (ax_code 279) (ax_maxL 279) (ax_ret 279) (ax_hh 279)) := rfl
set_option maxRecDepth 100000 in
theorem ax_w280 : lw_tbl[1116]? = some (.codeWith (ax_y 280) (ax_code 280) (ax_maxL 280) (ax_ret 280) (ax_hh 280)) := rfl
set_option maxRecDepth 100000 in
theorem ax_w281 : lw_tbl[1133]? = some (.codeWith (ax_y 281) (ax_code 281) (ax_maxL 281) (ax_ret 281) (ax_hh 281)) := rfl
set_option maxRecDepth 100000 in
theorem ax_w282 : lw_tbl[1140]? = some (.codeWith (ax_y 282) (ax_code 282) (ax_maxL 282) (ax_ret 282) (ax_hh 282)) := rfl
