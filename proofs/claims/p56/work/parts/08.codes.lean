set_option maxRecDepth 100000 in
theorem ax_w0 : lw_tbl[72]? = some (.code (ax_y 0) (ax_code 0) (ax_maxL 0) (ax_ret 0)) := rfl
set_option maxRecDepth 100000 in
theorem ax_w1 : lw_tbl[429]? = some (.code (ax_y 1) (ax_code 1) (ax_maxL 1) (ax_ret 1)) := rfl
set_option maxRecDepth 100000 in
theorem ax_w2 : lw_tbl[501]? = some (.code (ax_y 2) (ax_code 2) (ax_maxL 2) (ax_ret 2)) := rfl
set_option maxRecDepth 100000 in
theorem ax_w3 : lw_tbl[521]? = some (.code (ax_y 3) (ax_code 3) (ax_maxL 3) (ax_ret 3)) := rfl
set_option maxRecDepth 100000 in
theorem ax_w4 : lw_tbl[511]? = some (.code (ax_y 4) (ax_code 4) (ax_maxL 4) (ax_ret 4)) := rfl
set_option maxRecDepth 100000 in
theorem ax_w5 : lw_tbl[479]? = some (.code (ax_y 5) (ax_code 5) (ax_maxL 5) (ax_ret 5)) := rfl
set_option maxRecDepth 100000 in
theorem ax_w6 : lw_tbl[198]? = some (.code (ax_y 6) (ax_code 6) (ax_maxL 6) (ax_ret 6)) := rfl
set_option maxRecDepth 100000 in
theorem ax_w7 : lw_tbl[581]? = some (.code (ax_y 7) (ax_code 7) (ax_maxL 7) (ax_ret 7)) := rfl
set_option maxRecDepth 100000 in
theorem ax_w8 : lw_tbl[587]? = some (.code (ax_y 8) (ax_code 8) (ax_maxL 8) (ax_ret 8)) := rfl
set_option maxRecDepth 100000 in
theorem ax_w9 : lw_tbl[591]? = some (.code (ax_y 9) (ax_code 9) (ax_maxL 9) (ax_ret 9)) := rfl
set_option maxRecDepth 100000 in
theorem ax_w10 : lw_tbl[223]? = some (.code (ax_y 10) (ax_code 10) (ax_maxL 10) (ax_ret 10)) := rfl
set_option maxRecDepth 100000 in
theorem ax_w11 : lw_tbl[131]? = some (.code (ax_y 11) (ax_code 11) (ax_maxL 11) (ax_ret 11)) := rfl
set_option maxRecDepth 100000 in
theorem ax_w12 : lw_tbl[439]? = some (.code (ax_y 12) (ax_code 12) (ax_maxL 12) (ax_ret 12)) := rfl
set_option maxRecDepth 100000 in
theorem ax_w13 : lw_tbl[149]? = some (.code (ax_y 13) (ax_code 13) (ax_maxL 13) (ax_ret 13)) := rfl
set_option maxRecDepth 100000 in
theorem ax_w14 : lw_tbl[568]? = some (.code (ax_y 14) (ax_code 14) (ax_maxL 14) (ax_ret 14)) := rfl
set_option maxRecDepth 100000 in
theorem ax_w15 : lw_tbl[779]? = some (.code (ax_y 15) (ax_code 15) (ax_maxL 15) (ax_ret 15)) := rfl
set_option maxRecDepth 100000 in
theorem ax_w16 : lw_tbl[783]? = some (.code (ax_y 16) (ax_code 16) (ax_maxL 16) (ax_ret 16)) := rfl
set_option maxRecDepth 100000 in
theorem ax_w17 : lw_tbl[105]? = some (.code (ax_y 17) (ax_code 17) (ax_maxL 17) (ax_ret 17)) := rfl
set_option maxRecDepth 100000 in
theorem ax_w18 : lw_tbl[434]? = some (.code (ax_y 18) (ax_code 18) (ax_maxL 18) (ax_ret 18)) := rfl
set_option maxRecDepth 100000 in
theorem ax_w19 : lw_tbl[616]? = some (.code (ax_y 19) (ax_code 19) (ax_maxL 19) (ax_ret 19)) := rfl
set_option maxRecDepth 100000 in
theorem ax_w20 : lw_tbl[459]? = some (.code (ax_y 20) (ax_code 20) (ax_maxL 20) (ax_ret 20)) := rfl
set_option maxRecDepth 100000 in
theorem ax_w21 : lw_tbl[732]? = some (.code (ax_y 21) (ax_code 21) (ax_maxL 21) (ax_ret 21)) := rfl
set_option maxRecDepth 100000 in
theorem ax_w22 : lw_tbl[740]? = some (.code (ax_y 22) (ax_code 22) (ax_maxL 22) (ax_ret 22)) := rfl
set_option maxRecDepth 100000 in
theorem ax_w23 : lw_tbl[749]? = some (.code (ax_y 23) (ax_code 23) (ax_maxL 23) (ax_ret 23)) := rfl
set_option maxRecDepth 100000 in
theorem ax_w24 : lw_tbl[529]? = some (.code (ax_y 24) (ax_code 24) (ax_maxL 24) (ax_ret 24)) := rfl
set_option maxRecDepth 100000 in
theorem ax_w25 : lw_tbl[564]? = some (.code (ax_y 25) (ax_code 25) (ax_maxL 25) (ax_ret 25)) := rfl
set_option maxRecDepth 100000 in
theorem ax_w26 : lw_tbl[795]? = some (.code (ax_y 26) (ax_code 26) (ax_maxL 26) (ax_ret 26)) := rfl
set_option maxRecDepth 100000 in
theorem ax_w27 : lw_tbl[598]? = some (.code (ax_y 27) (ax_code 27) (ax_maxL 27) (ax_ret 27)) := rfl
set_option maxRecDepth 100000 in
theorem ax_w28 : lw_tbl[607]? = some (.code (ax_y 28) (ax_code 28) (ax_maxL 28) (ax_ret 28)) := rfl
set_option maxRecDepth 100000 in
theorem ax_w29 : lw_tbl[612]? = some (.code (ax_y 29) (ax_code 29) (ax_maxL 29) (ax_ret 29)) := rfl
set_option maxRecDepth 100000 in
theorem ax_w30 : lw_tbl[35]? = some (.code (ax_y 30) (ax_code 30) (ax_maxL 30) (ax_ret 30)) := rfl
set_option maxRecDepth 100000 in
theorem ax_w31 : lw_tbl[418]? = some (.code (ax_y 31) (ax_code 31) (ax_maxL 31) (ax_ret 31)) := rfl
set_option maxRecDepth 100000 in
theorem ax_w32 : lw_tbl[145]? = some (.code (ax_y 32) (ax_code 32) (ax_maxL 32) (ax_ret 32)) := rfl
set_option maxRecDepth 100000 in
theorem ax_w33 : lw_tbl[463]? = some (.code (ax_y 33) (ax_code 33) (ax_maxL 33) (ax_ret 33)) := rfl
set_option maxRecDepth 100000 in
theorem ax_w34 : lw_tbl[560]? = some (.code (ax_y 34) (ax_code 34) (ax_maxL 34) (ax_ret 34)) := rfl
set_option maxRecDepth 100000 in
theorem ax_w35 : lw_tbl[602]? = some (.code (ax_y 35) (ax_code 35) (ax_maxL 35) (ax_ret 35)) := rfl
set_option maxRecDepth 100000 in
theorem ax_w36 : lw_tbl[757]? = some (.code (ax_y 36) (ax_code 36) (ax_maxL 36) (ax_ret 36)) := rfl
set_option maxRecDepth 100000 in
theorem ax_w37 : lw_tbl[471]? = some (.code (ax_y 37) (ax_code 37) (ax_maxL 37) (ax_ret 37)) := rfl
set_option maxRecDepth 100000 in
theorem ax_w38 : lw_tbl[506]? = some (.code (ax_y 38) (ax_code 38) (ax_maxL 38) (ax_ret 38)) := rfl
set_option maxRecDepth 100000 in
theorem ax_w39 : lw_tbl[537]? = some (.code (ax_y 39) (ax_code 39) (ax_maxL 39) (ax_ret 39)) := rfl
set_option maxRecDepth 100000 in
theorem ax_w40 : lw_tbl[646]? = some (.code (ax_y 40) (ax_code 40) (ax_maxL 40) (ax_ret 40)) := rfl
set_option maxRecDepth 100000 in
theorem ax_w41 : lw_tbl[636]? = some (.code (ax_y 41) (ax_code 41) (ax_maxL 41) (ax_ret 41)) := rfl
set_option maxRecDepth 100000 in
theorem ax_w42 : lw_tbl[577]? = some (.code (ax_y 42) (ax_code 42) (ax_maxL 42) (ax_ret 42)) := rfl
set_option maxRecDepth 100000 in
theorem ax_w43 : lw_tbl[692]? = some (.code (ax_y 43) (ax_code 43) (ax_maxL 43) (ax_ret 43)) := rfl
set_option maxRecDepth 100000 in
theorem ax_w44 : lw_tbl[705]? = some (.code (ax_y 44) (ax_code 44) (ax_maxL 44) (ax_ret 44)) := rfl
set_option maxRecDepth 100000 in
theorem ax_w45 : lw_tbl[41]? = some (.code (ax_y 45) (ax_code 45) (ax_maxL 45) (ax_ret 45)) := rfl
set_option maxRecDepth 100000 in
theorem ax_w46 : lw_tbl[422]? = some (.code (ax_y 46) (ax_code 46) (ax_maxL 46) (ax_ret 46)) := rfl
set_option maxRecDepth 100000 in
theorem ax_w47 : lw_tbl[294]? = some (.code (ax_y 47) (ax_code 47) (ax_maxL 47) (ax_ret 47)) := rfl
set_option maxRecDepth 100000 in
theorem ax_w48 : lw_tbl[394]? = some (.code (ax_y 48) (ax_code 48) (ax_maxL 48) (ax_ret 48)) := rfl
set_option maxRecDepth 100000 in
theorem ax_w49 : lw_tbl[445]? = some (.code (ax_y 49) (ax_code 49) (ax_maxL 49) (ax_ret 49)) := rfl
set_option maxRecDepth 100000 in
theorem ax_w50 : lw_tbl[475]? = some (.code (ax_y 50) (ax_code 50) (ax_maxL 50) (ax_ret 50)) := rfl
set_option maxRecDepth 100000 in
theorem ax_w51 : lw_tbl[547]? = some (.code (ax_y 51) (ax_code 51) (ax_maxL 51) (ax_ret 51)) := rfl
set_option maxRecDepth 100000 in
theorem ax_w52 : lw_tbl[543]? = some (.code (ax_y 52) (ax_code 52) (ax_maxL 52) (ax_ret 52)) := rfl
set_option maxRecDepth 100000 in
theorem ax_w53 : lw_tbl[676]? = some (.code (ax_y 53) (ax_code 53) (ax_maxL 53) (ax_ret 53)) := rfl
set_option maxRecDepth 100000 in
theorem ax_w54 : lw_tbl[672]? = some (.code (ax_y 54) (ax_code 54) (ax_maxL 54) (ax_ret 54)) := rfl
set_option maxRecDepth 100000 in
theorem ax_w55 : lw_tbl[684]? = some (.code (ax_y 55) (ax_code 55) (ax_maxL 55) (ax_ret 55)) := rfl
set_option maxRecDepth 100000 in
theorem ax_w56 : lw_tbl[696]? = some (.code (ax_y 56) (ax_code 56) (ax_maxL 56) (ax_ret 56)) := rfl
set_option maxRecDepth 100000 in
theorem ax_w57 : lw_tbl[27]? = some (.code (ax_y 57) (ax_code 57) (ax_maxL 57) (ax_ret 57)) := rfl
set_option maxRecDepth 100000 in
theorem ax_w58 : lw_tbl[370]? = some (.code (ax_y 58) (ax_code 58) (ax_maxL 58) (ax_ret 58)) := rfl
set_option maxRecDepth 100000 in
theorem ax_w59 : lw_tbl[467]? = some (.code (ax_y 59) (ax_code 59) (ax_maxL 59) (ax_ret 59)) := rfl
set_option maxRecDepth 100000 in
theorem ax_w60 : lw_tbl[497]? = some (.code (ax_y 60) (ax_code 60) (ax_maxL 60) (ax_ret 60)) := rfl
set_option maxRecDepth 100000 in
theorem ax_w61 : lw_tbl[525]? = some (.code (ax_y 61) (ax_code 61) (ax_maxL 61) (ax_ret 61)) := rfl
set_option maxRecDepth 100000 in
theorem ax_w62 : lw_tbl[453]? = some (.code (ax_y 62) (ax_code 62) (ax_maxL 62) (ax_ret 62)) := rfl
set_option maxRecDepth 100000 in
theorem ax_w63 : lw_tbl[551]? = some (.code (ax_y 63) (ax_code 63) (ax_maxL 63) (ax_ret 63)) := rfl
set_option maxRecDepth 100000 in
theorem ax_w64 : lw_tbl[641]? = some (.code (ax_y 64) (ax_code 64) (ax_maxL 64) (ax_ret 64)) := rfl
set_option maxRecDepth 100000 in
theorem ax_w65 : lw_tbl[620]? = some (.code (ax_y 65) (ax_code 65) (ax_maxL 65) (ax_ret 65)) := rfl
set_option maxRecDepth 100000 in
theorem ax_w66 : lw_tbl[572]? = some (.code (ax_y 66) (ax_code 66) (ax_maxL 66) (ax_ret 66)) := rfl
set_option maxRecDepth 100000 in
theorem ax_w67 : lw_tbl[823]? = some (.code (ax_y 67) (ax_code 67) (ax_maxL 67) (ax_ret 67)) := rfl
set_option maxRecDepth 100000 in
theorem ax_w68 : lw_tbl[828]? = some (.code (ax_y 68) (ax_code 68) (ax_maxL 68) (ax_ret 68)) := rfl
set_option maxRecDepth 100000 in
theorem ax_w69 : lw_tbl[279]? = some (.code (ax_y 69) (ax_code 69) (ax_maxL 69) (ax_ret 69)) := rfl
set_option maxRecDepth 100000 in
theorem ax_w70 : lw_tbl[286]? = some (.code (ax_y 70) (ax_code 70) (ax_maxL 70) (ax_ret 70)) := rfl
set_option maxRecDepth 100000 in
theorem ax_w71 : lw_tbl[366]? = some (.code (ax_y 71) (ax_code 71) (ax_maxL 71) (ax_ret 71)) := rfl
set_option maxRecDepth 100000 in
theorem ax_w72 : lw_tbl[663]? = some (.code (ax_y 72) (ax_code 72) (ax_maxL 72) (ax_ret 72)) := rfl
set_option maxRecDepth 100000 in
theorem ax_w73 : lw_tbl[486]? = some (.code (ax_y 73) (ax_code 73) (ax_maxL 73) (ax_ret 73)) := rfl
set_option maxRecDepth 100000 in
theorem ax_w74 : lw_tbl[517]? = some (.code (ax_y 74) (ax_code 74) (ax_maxL 74) (ax_ret 74)) := rfl
set_option maxRecDepth 100000 in
theorem ax_w75 : lw_tbl[709]? = some (.code (ax_y 75) (ax_code 75) (ax_maxL 75) (ax_ret 75)) := rfl
set_option maxRecDepth 100000 in
theorem ax_w76 : lw_tbl[625]? = some (.code (ax_y 76) (ax_code 76) (ax_maxL 76) (ax_ret 76)) := rfl
set_option maxRecDepth 100000 in
theorem ax_w77 : lw_tbl[658]? = some (.code (ax_y 77) (ax_code 77) (ax_maxL 77) (ax_ret 77)) := rfl
set_option maxRecDepth 100000 in
theorem ax_w78 : lw_tbl[811]? = some (.code (ax_y 78) (ax_code 78) (ax_maxL 78) (ax_ret 78)) := rfl
set_option maxRecDepth 100000 in
theorem ax_w79 : lw_tbl[819]? = some (.code (ax_y 79) (ax_code 79) (ax_maxL 79) (ax_ret 79)) := rfl
set_option maxRecDepth 100000 in
theorem ax_w80 : lw_tbl[449]? = some (.code (ax_y 80) (ax_code 80) (ax_maxL 80) (ax_ret 80)) := rfl
set_option maxRecDepth 100000 in
theorem ax_w81 : lw_tbl[722]? = some (.code (ax_y 81) (ax_code 81) (ax_maxL 81) (ax_ret 81)) := rfl
set_option maxRecDepth 100000 in
theorem ax_w82 : lw_tbl[736]? = some (.code (ax_y 82) (ax_code 82) (ax_maxL 82) (ax_ret 82)) := rfl
set_option maxRecDepth 100000 in
theorem ax_w83 : lw_tbl[744]? = some (.code (ax_y 83) (ax_code 83) (ax_maxL 83) (ax_ret 83)) := rfl
set_option maxRecDepth 100000 in
theorem ax_w84 : lw_tbl[753]? = some (.code (ax_y 84) (ax_code 84) (ax_maxL 84) (ax_ret 84)) := rfl
set_option maxRecDepth 100000 in
theorem ax_w85 : lw_tbl[800]? = some (.code (ax_y 85) (ax_code 85) (ax_maxL 85) (ax_ret 85)) := rfl
set_option maxRecDepth 100000 in
theorem ax_w86 : lw_tbl[787]? = some (.code (ax_y 86) (ax_code 86) (ax_maxL 86) (ax_ret 86)) := rfl
set_option maxRecDepth 100000 in
theorem ax_w87 : lw_tbl[815]? = some (.code (ax_y 87) (ax_code 87) (ax_maxL 87) (ax_ret 87)) := rfl
set_option maxRecDepth 100000 in
theorem ax_w88 : lw_tbl[807]? = some (.code (ax_y 88) (ax_code 88) (ax_maxL 88) (ax_ret 88)) := rfl
set_option maxRecDepth 100000 in
theorem ax_w89 : lw_tbl[769]? = some (.code (ax_y 89) (ax_code 89) (ax_maxL 89) (ax_ret 89)) := rfl
set_option maxRecDepth 100000 in
theorem ax_w90 : lw_tbl[775]? = some (.code (ax_y 90) (ax_code 90) (ax_maxL 90) (ax_ret 90)) := rfl
set_option maxRecDepth 100000 in
theorem ax_w91 : lw_tbl[556]? = some (.code (ax_y 91) (ax_code 91) (ax_maxL 91) (ax_ret 91)) := rfl
set_option maxRecDepth 100000 in
theorem ax_w92 : lw_tbl[668]? = some (.code (ax_y 92) (ax_code 92) (ax_maxL 92) (ax_ret 92)) := rfl
set_option maxRecDepth 100000 in
theorem ax_w93 : lw_tbl[680]? = some (.code (ax_y 93) (ax_code 93) (ax_maxL 93) (ax_ret 93)) := rfl
set_option maxRecDepth 100000 in
theorem ax_w94 : lw_tbl[688]? = some (.code (ax_y 94) (ax_code 94) (ax_maxL 94) (ax_ret 94)) := rfl
set_option maxRecDepth 100000 in
theorem ax_w95 : lw_tbl[700]? = some (.code (ax_y 95) (ax_code 95) (ax_maxL 95) (ax_ret 95)) := rfl
set_option maxRecDepth 100000 in
theorem ax_w96 : lw_tbl[632]? = some (.code (ax_y 96) (ax_code 96) (ax_maxL 96) (ax_ret 96)) := rfl
set_option maxRecDepth 100000 in
theorem ax_w97 : lw_tbl[653]? = some (.code (ax_y 97) (ax_code 97) (ax_maxL 97) (ax_ret 97)) := rfl
set_option maxRecDepth 100000 in
theorem ax_w98 : lw_tbl[713]? = some (.code (ax_y 98) (ax_code 98) (ax_maxL 98) (ax_ret 98)) := rfl
set_option maxRecDepth 100000 in
theorem ax_w99 : lw_tbl[764]? = some (.code (ax_y 99) (ax_code 99) (ax_maxL 99) (ax_ret 99)) := rfl
set_option maxRecDepth 100000 in
theorem ax_w100 : lw_tbl[373]? = some (.code (ax_y 100) (ax_code 100) (ax_maxL 100) (ax_ret 100)) := rfl
set_option maxRecDepth 100000 in
theorem ax_w101 : lw_tbl[489]? = some (.code (ax_y 101) (ax_code 101) (ax_maxL 101) (ax_ret 101)) := rfl
set_option maxRecDepth 100000 in
theorem ax_w102 : lw_tbl[790]? = some (.code (ax_y 102) (ax_code 102) (ax_maxL 102) (ax_ret 102)) := rfl
set_option maxRecDepth 100000 in
theorem ax_w103 : lw_tbl[290]? = some (.code (ax_y 103) (ax_code 103) (ax_maxL 103) (ax_ret 103)) := rfl
set_option maxRecDepth 100000 in
theorem ax_w104 : lw_tbl[726]? = some (.code (ax_y 104) (ax_code 104) (ax_maxL 104) (ax_ret 104)) := rfl
set_option maxRecDepth 100000 in
theorem ax_w105 : lw_tbl[492]? = some (.code (ax_y 105) (ax_code 105) (ax_maxL 105) (ax_ret 105)) := rfl
set_option maxRecDepth 100000 in
theorem ax_w106 : lw_tbl[532]? = some (.code (ax_y 106) (ax_code 106) (ax_maxL 106) (ax_ret 106)) := rfl
set_option maxRecDepth 100000 in
theorem ax_w107 : lw_tbl[594]? = some (.code (ax_y 107) (ax_code 107) (ax_maxL 107) (ax_ret 107)) := rfl
set_option maxRecDepth 100000 in
theorem ax_w108 : lw_tbl[414]? = some (.code (ax_y 108) (ax_code 108) (ax_maxL 108) (ax_ret 108)) := rfl
set_option maxRecDepth 100000 in
theorem ax_w109 : lw_tbl[268]? = some (.code (ax_y 109) (ax_code 109) (ax_maxL 109) (ax_ret 109)) := rfl
set_option maxRecDepth 100000 in
theorem ax_w110 : lw_tbl[274]? = some (.code (ax_y 110) (ax_code 110) (ax_maxL 110) (ax_ret 110)) := rfl
set_option maxRecDepth 100000 in
theorem ax_w111 : lw_tbl[271]? = some (.code (ax_y 111) (ax_code 111) (ax_maxL 111) (ax_ret 111)) := rfl
set_option maxRecDepth 100000 in
theorem ax_w112 : lw_tbl[628]? = some (.code (ax_y 112) (ax_code 112) (ax_maxL 112) (ax_ret 112)) := rfl
set_option maxRecDepth 100000 in
theorem ax_w113 : lw_tbl[282]? = some (.code (ax_y 113) (ax_code 113) (ax_maxL 113) (ax_ret 113)) := rfl
set_option maxRecDepth 100000 in
theorem ax_w114 : lw_tbl[482]? = some (.code (ax_y 114) (ax_code 114) (ax_maxL 114) (ax_ret 114)) := rfl
set_option maxRecDepth 100000 in
theorem ax_w115 : lw_tbl[649]? = some (.code (ax_y 115) (ax_code 115) (ax_maxL 115) (ax_ret 115)) := rfl
set_option maxRecDepth 100000 in
theorem ax_w116 : lw_tbl[718]? = some (.code (ax_y 116) (ax_code 116) (ax_maxL 116) (ax_ret 116)) := rfl
set_option maxRecDepth 100000 in
theorem ax_w117 : lw_tbl[803]? = some (.code (ax_y 117) (ax_code 117) (ax_maxL 117) (ax_ret 117)) := rfl
