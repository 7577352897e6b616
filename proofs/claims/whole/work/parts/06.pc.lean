/-! printed by gen.py: the code words -/
set_option maxRecDepth 100000 in
theorem pc_k0 : lw_tbl[(pwF 0).1]? = some (Cond.code (myF 0) (mcF 0) (mlF 0) (mrF 0)) := rfl
set_option maxRecDepth 100000 in
theorem pc_k1 : lw_tbl[(pwF 1).1]? = some (Cond.code (myF 1) (mcF 1) (mlF 1) (mrF 1)) := rfl
set_option maxRecDepth 100000 in
theorem pc_k2 : lw_tbl[(pwF 2).1]? = some (Cond.code (myF 2) (mcF 2) (mlF 2) (mrF 2)) := rfl
set_option maxRecDepth 100000 in
theorem pc_k3 : lw_tbl[(pwF 3).1]? = some (Cond.code (myF 3) (mcF 3) (mlF 3) (mrF 3)) := rfl
set_option maxRecDepth 100000 in
theorem pc_k4 : lw_tbl[(pwF 4).1]? = some (Cond.code (myF 4) (mcF 4) (mlF 4) (mrF 4)) := rfl
set_option maxRecDepth 100000 in
theorem pc_k5 : lw_tbl[(pwF 5).1]? = some (Cond.code (myF 5) (mcF 5) (mlF 5) (mrF 5)) := rfl
set_option maxRecDepth 100000 in
theorem pc_k6 : lw_tbl[(pwF 6).1]? = some (Cond.code (myF 6) (mcF 6) (mlF 6) (mrF 6)) := rfl
set_option maxRecDepth 100000 in
theorem pc_k7 : lw_tbl[(pwF 7).1]? = some (Cond.code (myF 7) (mcF 7) (mlF 7) (mrF 7)) := rfl
set_option maxRecDepth 100000 in
theorem pc_k8 : lw_tbl[(pwF 8).1]? = some (Cond.code (myF 8) (mcF 8) (mlF 8) (mrF 8)) := rfl
set_option maxRecDepth 100000 in
theorem pc_k9 : lw_tbl[(pwF 9).1]? = some (Cond.code (myF 9) (mcF 9) (mlF 9) (mrF 9)) := rfl
set_option maxRecDepth 100000 in
theorem pc_k10 : lw_tbl[(pwF 10).1]? = some (Cond.code (myF 10) (mcF 10) (mlF 10) (mrF 10)) := rfl
set_option maxRecDepth 100000 in
theorem pc_k11 : lw_tbl[(pwF 11).1]? = some (Cond.code (myF 11) (mcF 11) (mlF 11) (mrF 11)) := rfl
set_option maxRecDepth 100000 in
theorem pc_k12 : lw_tbl[(pwF 12).1]? = some (Cond.code (myF 12) (mcF 12) (mlF 12) (mrF 12)) := rfl
set_option maxRecDepth 100000 in
theorem pc_k13 : lw_tbl[(pwF 13).1]? = some (Cond.code (myF 13) (mcF 13) (mlF 13) (mrF 13)) := rfl
set_option maxRecDepth 100000 in
theorem pc_k14 : lw_tbl[(pwF 14).1]? = some (Cond.code (myF 14) (mcF 14) (mlF 14) (mrF 14)) := rfl
set_option maxRecDepth 100000 in
theorem pc_k15 : lw_tbl[(pwF 15).1]? = some (Cond.code (myF 15) (mcF 15) (mlF 15) (mrF 15)) := rfl
set_option maxRecDepth 100000 in
theorem pc_k16 : lw_tbl[(pwF 16).1]? = some (Cond.code (myF 16) (mcF 16) (mlF 16) (mrF 16)) := rfl
set_option maxRecDepth 100000 in
theorem pc_k17 : lw_tbl[(pwF 17).1]? = some (Cond.code (myF 17) (mcF 17) (mlF 17) (mrF 17)) := rfl
set_option maxRecDepth 100000 in
theorem pc_k18 : lw_tbl[(pwF 18).1]? = some (Cond.code (myF 18) (mcF 18) (mlF 18) (mrF 18)) := rfl
set_option maxRecDepth 100000 in
theorem pc_k19 : lw_tbl[(pwF 19).1]? = some (Cond.code (myF 19) (mcF 19) (mlF 19) (mrF 19)) := rfl
set_option maxRecDepth 100000 in
theorem pc_k20 : lw_tbl[(pwF 20).1]? = some (Cond.code (myF 20) (mcF 20) (mlF 20) (mrF 20)) := rfl
set_option maxRecDepth 100000 in
theorem pc_k21 : lw_tbl[(pwF 21).1]? = some (Cond.code (myF 21) (mcF 21) (mlF 21) (mrF 21)) := rfl
set_option maxRecDepth 100000 in
theorem pc_k22 : lw_tbl[(pwF 22).1]? = some (Cond.code (myF 22) (mcF 22) (mlF 22) (mrF 22)) := rfl
set_option maxRecDepth 100000 in
theorem pc_k23 : lw_tbl[(pwF 23).1]? = some (Cond.code (myF 23) (mcF 23) (mlF 23) (mrF 23)) := rfl
set_option maxRecDepth 100000 in
theorem pc_k24 : lw_tbl[(pwF 24).1]? = some (Cond.code (myF 24) (mcF 24) (mlF 24) (mrF 24)) := rfl
set_option maxRecDepth 100000 in
theorem pc_k25 : lw_tbl[(pwF 25).1]? = some (Cond.code (myF 25) (mcF 25) (mlF 25) (mrF 25)) := rfl
set_option maxRecDepth 100000 in
theorem pc_k26 : lw_tbl[(pwF 26).1]? = some (Cond.code (myF 26) (mcF 26) (mlF 26) (mrF 26)) := rfl
set_option maxRecDepth 100000 in
theorem pc_k27 : lw_tbl[(pwF 27).1]? = some (Cond.code (myF 27) (mcF 27) (mlF 27) (mrF 27)) := rfl
set_option maxRecDepth 100000 in
theorem pc_k28 : lw_tbl[(pwF 28).1]? = some (Cond.code (myF 28) (mcF 28) (mlF 28) (mrF 28)) := rfl
set_option maxRecDepth 100000 in
theorem pc_k29 : lw_tbl[(pwF 29).1]? = some (Cond.code (myF 29) (mcF 29) (mlF 29) (mrF 29)) := rfl
set_option maxRecDepth 100000 in
theorem pc_k30 : lw_tbl[(pwF 30).1]? = some (Cond.code (myF 30) (mcF 30) (mlF 30) (mrF 30)) := rfl
set_option maxRecDepth 100000 in
theorem pc_k31 : lw_tbl[(pwF 31).1]? = some (Cond.code (myF 31) (mcF 31) (mlF 31) (mrF 31)) := rfl
set_option maxRecDepth 100000 in
theorem pc_k32 : lw_tbl[(pwF 32).1]? = some (Cond.code (myF 32) (mcF 32) (mlF 32) (mrF 32)) := rfl
set_option maxRecDepth 100000 in
theorem pc_k33 : lw_tbl[(pwF 33).1]? = some (Cond.code (myF 33) (mcF 33) (mlF 33) (mrF 33)) := rfl
set_option maxRecDepth 100000 in
theorem pc_k34 : lw_tbl[(pwF 34).1]? = some (Cond.code (myF 34) (mcF 34) (mlF 34) (mrF 34)) := rfl
set_option maxRecDepth 100000 in
theorem pc_k35 : lw_tbl[(pwF 35).1]? = some (Cond.code (myF 35) (mcF 35) (mlF 35) (mrF 35)) := rfl
set_option maxRecDepth 100000 in
theorem pc_k36 : lw_tbl[(pwF 36).1]? = some (Cond.code (myF 36) (mcF 36) (mlF 36) (mrF 36)) := rfl
set_option maxRecDepth 100000 in
theorem pc_k37 : lw_tbl[(pwF 37).1]? = some (Cond.code (myF 37) (mcF 37) (mlF 37) (mrF 37)) := rfl
set_option maxRecDepth 100000 in
theorem pc_k38 : lw_tbl[(pwF 38).1]? = some (Cond.code (myF 38) (mcF 38) (mlF 38) (mrF 38)) := rfl
set_option maxRecDepth 100000 in
theorem pc_k39 : lw_tbl[(pwF 39).1]? = some (Cond.code (myF 39) (mcF 39) (mlF 39) (mrF 39)) := rfl
set_option maxRecDepth 100000 in
theorem pc_k40 : lw_tbl[(pwF 40).1]? = some (Cond.code (myF 40) (mcF 40) (mlF 40) (mrF 40)) := rfl
set_option maxRecDepth 100000 in
theorem pc_k41 : lw_tbl[(pwF 41).1]? = some (Cond.code (myF 41) (mcF 41) (mlF 41) (mrF 41)) := rfl
set_option maxRecDepth 100000 in
theorem pc_k42 : lw_tbl[(pwF 42).1]? = some (Cond.code (myF 42) (mcF 42) (mlF 42) (mrF 42)) := rfl
set_option maxRecDepth 100000 in
theorem pc_k43 : lw_tbl[(pwF 43).1]? = some (Cond.code (myF 43) (mcF 43) (mlF 43) (mrF 43)) := rfl
set_option maxRecDepth 100000 in
theorem pc_k44 : lw_tbl[(pwF 44).1]? = some (Cond.code (myF 44) (mcF 44) (mlF 44) (mrF 44)) := rfl
set_option maxRecDepth 100000 in
theorem pc_k45 : lw_tbl[(pwF 45).1]? = some (Cond.code (myF 45) (mcF 45) (mlF 45) (mrF 45)) := rfl
set_option maxRecDepth 100000 in
theorem pc_k46 : lw_tbl[(pwF 46).1]? = some (Cond.code (myF 46) (mcF 46) (mlF 46) (mrF 46)) := rfl
set_option maxRecDepth 100000 in
theorem pc_k47 : lw_tbl[(pwF 47).1]? = some (Cond.code (myF 47) (mcF 47) (mlF 47) (mrF 47)) := rfl
set_option maxRecDepth 100000 in
theorem pc_k48 : lw_tbl[(pwF 48).1]? = some (Cond.code (myF 48) (mcF 48) (mlF 48) (mrF 48)) := rfl
set_option maxRecDepth 100000 in
theorem pc_k49 : lw_tbl[(pwF 49).1]? = some (Cond.code (myF 49) (mcF 49) (mlF 49) (mrF 49)) := rfl
set_option maxRecDepth 100000 in
theorem pc_k50 : lw_tbl[(pwF 50).1]? = some (Cond.code (myF 50) (mcF 50) (mlF 50) (mrF 50)) := rfl
set_option maxRecDepth 100000 in
theorem pc_k51 : lw_tbl[(pwF 51).1]? = some (Cond.code (myF 51) (mcF 51) (mlF 51) (mrF 51)) := rfl
set_option maxRecDepth 100000 in
theorem pc_k52 : lw_tbl[(pwF 52).1]? = some (Cond.code (myF 52) (mcF 52) (mlF 52) (mrF 52)) := rfl
set_option maxRecDepth 100000 in
theorem pc_k53 : lw_tbl[(pwF 53).1]? = some (Cond.code (myF 53) (mcF 53) (mlF 53) (mrF 53)) := rfl
set_option maxRecDepth 100000 in
theorem pc_k54 : lw_tbl[(pwF 54).1]? = some (Cond.code (myF 54) (mcF 54) (mlF 54) (mrF 54)) := rfl
set_option maxRecDepth 100000 in
theorem pc_k55 : lw_tbl[(pwF 55).1]? = some (Cond.code (myF 55) (mcF 55) (mlF 55) (mrF 55)) := rfl
set_option maxRecDepth 100000 in
theorem pc_k56 : lw_tbl[(pwF 56).1]? = some (Cond.code (myF 56) (mcF 56) (mlF 56) (mrF 56)) := rfl
set_option maxRecDepth 100000 in
theorem pc_k57 : lw_tbl[(pwF 57).1]? = some (Cond.code (myF 57) (mcF 57) (mlF 57) (mrF 57)) := rfl
set_option maxRecDepth 100000 in
theorem pc_k58 : lw_tbl[(pwF 58).1]? = some (Cond.code (myF 58) (mcF 58) (mlF 58) (mrF 58)) := rfl
set_option maxRecDepth 100000 in
theorem pc_k59 : lw_tbl[(pwF 59).1]? = some (Cond.code (myF 59) (mcF 59) (mlF 59) (mrF 59)) := rfl
set_option maxRecDepth 100000 in
theorem pc_k60 : lw_tbl[(pwF 60).1]? = some (Cond.code (myF 60) (mcF 60) (mlF 60) (mrF 60)) := rfl
set_option maxRecDepth 100000 in
theorem pc_k61 : lw_tbl[(pwF 61).1]? = some (Cond.code (myF 61) (mcF 61) (mlF 61) (mrF 61)) := rfl
set_option maxRecDepth 100000 in
theorem pc_k62 : lw_tbl[(pwF 62).1]? = some (Cond.code (myF 62) (mcF 62) (mlF 62) (mrF 62)) := rfl
set_option maxRecDepth 100000 in
theorem pc_k63 : lw_tbl[(pwF 63).1]? = some (Cond.code (myF 63) (mcF 63) (mlF 63) (mrF 63)) := rfl
set_option maxRecDepth 100000 in
theorem pc_k64 : lw_tbl[(pwF 64).1]? = some (Cond.code (myF 64) (mcF 64) (mlF 64) (mrF 64)) := rfl
set_option maxRecDepth 100000 in
theorem pc_k65 : lw_tbl[(pwF 65).1]? = some (Cond.code (myF 65) (mcF 65) (mlF 65) (mrF 65)) := rfl
set_option maxRecDepth 100000 in
theorem pc_k66 : lw_tbl[(pwF 66).1]? = some (Cond.code (myF 66) (mcF 66) (mlF 66) (mrF 66)) := rfl
set_option maxRecDepth 100000 in
theorem pc_k67 : lw_tbl[(pwF 67).1]? = some (Cond.code (myF 67) (mcF 67) (mlF 67) (mrF 67)) := rfl
set_option maxRecDepth 100000 in
theorem pc_k68 : lw_tbl[(pwF 68).1]? = some (Cond.code (myF 68) (mcF 68) (mlF 68) (mrF 68)) := rfl
set_option maxRecDepth 100000 in
theorem pc_k69 : lw_tbl[(pwF 69).1]? = some (Cond.code (myF 69) (mcF 69) (mlF 69) (mrF 69)) := rfl
set_option maxRecDepth 100000 in
theorem pc_k70 : lw_tbl[(pwF 70).1]? = some (Cond.code (myF 70) (mcF 70) (mlF 70) (mrF 70)) := rfl
set_option maxRecDepth 100000 in
theorem pc_k71 : lw_tbl[(pwF 71).1]? = some (Cond.code (myF 71) (mcF 71) (mlF 71) (mrF 71)) := rfl
set_option maxRecDepth 100000 in
theorem pc_k72 : lw_tbl[(pwF 72).1]? = some (Cond.code (myF 72) (mcF 72) (mlF 72) (mrF 72)) := rfl
set_option maxRecDepth 100000 in
theorem pc_k73 : lw_tbl[(pwF 73).1]? = some (Cond.code (myF 73) (mcF 73) (mlF 73) (mrF 73)) := rfl
set_option maxRecDepth 100000 in
theorem pc_k74 : lw_tbl[(pwF 74).1]? = some (Cond.code (myF 74) (mcF 74) (mlF 74) (mrF 74)) := rfl
set_option maxRecDepth 100000 in
theorem pc_k75 : lw_tbl[(pwF 75).1]? = some (Cond.code (myF 75) (mcF 75) (mlF 75) (mrF 75)) := rfl
set_option maxRecDepth 100000 in
theorem pc_k76 : lw_tbl[(pwF 76).1]? = some (Cond.code (myF 76) (mcF 76) (mlF 76) (mrF 76)) := rfl
set_option maxRecDepth 100000 in
theorem pc_k77 : lw_tbl[(pwF 77).1]? = some (Cond.code (myF 77) (mcF 77) (mlF 77) (mrF 77)) := rfl
set_option maxRecDepth 100000 in
theorem pc_k78 : lw_tbl[(pwF 78).1]? = some (Cond.code (myF 78) (mcF 78) (mlF 78) (mrF 78)) := rfl
set_option maxRecDepth 100000 in
theorem pc_k79 : lw_tbl[(pwF 79).1]? = some (Cond.code (myF 79) (mcF 79) (mlF 79) (mrF 79)) := rfl
set_option maxRecDepth 100000 in
theorem pc_k80 : lw_tbl[(pwF 80).1]? = some (Cond.code (myF 80) (mcF 80) (mlF 80) (mrF 80)) := rfl
set_option maxRecDepth 100000 in
theorem pc_k81 : lw_tbl[(pwF 81).1]? = some (Cond.code (myF 81) (mcF 81) (mlF 81) (mrF 81)) := rfl
set_option maxRecDepth 100000 in
theorem pc_k82 : lw_tbl[(pwF 82).1]? = some (Cond.code (myF 82) (mcF 82) (mlF 82) (mrF 82)) := rfl
set_option maxRecDepth 100000 in
theorem pc_k83 : lw_tbl[(pwF 83).1]? = some (Cond.code (myF 83) (mcF 83) (mlF 83) (mrF 83)) := rfl
set_option maxRecDepth 100000 in
theorem pc_k84 : lw_tbl[(pwF 84).1]? = some (Cond.code (myF 84) (mcF 84) (mlF 84) (mrF 84)) := rfl
set_option maxRecDepth 100000 in
theorem pc_k85 : lw_tbl[(pwF 85).1]? = some (Cond.code (myF 85) (mcF 85) (mlF 85) (mrF 85)) := rfl
set_option maxRecDepth 100000 in
theorem pc_k86 : lw_tbl[(pwF 86).1]? = some (Cond.code (myF 86) (mcF 86) (mlF 86) (mrF 86)) := rfl
set_option maxRecDepth 100000 in
theorem pc_k87 : lw_tbl[(pwF 87).1]? = some (Cond.code (myF 87) (mcF 87) (mlF 87) (mrF 87)) := rfl
set_option maxRecDepth 100000 in
theorem pc_k88 : lw_tbl[(pwF 88).1]? = some (Cond.code (myF 88) (mcF 88) (mlF 88) (mrF 88)) := rfl
set_option maxRecDepth 100000 in
theorem pc_k89 : lw_tbl[(pwF 89).1]? = some (Cond.code (myF 89) (mcF 89) (mlF 89) (mrF 89)) := rfl
set_option maxRecDepth 100000 in
theorem pc_k90 : lw_tbl[(pwF 90).1]? = some (Cond.code (myF 90) (mcF 90) (mlF 90) (mrF 90)) := rfl
set_option maxRecDepth 100000 in
theorem pc_k91 : lw_tbl[(pwF 91).1]? = some (Cond.code (myF 91) (mcF 91) (mlF 91) (mrF 91)) := rfl
set_option maxRecDepth 100000 in
theorem pc_k92 : lw_tbl[(pwF 92).1]? = some (Cond.code (myF 92) (mcF 92) (mlF 92) (mrF 92)) := rfl
set_option maxRecDepth 100000 in
theorem pc_k93 : lw_tbl[(pwF 93).1]? = some (Cond.code (myF 93) (mcF 93) (mlF 93) (mrF 93)) := rfl
set_option maxRecDepth 100000 in
theorem pc_k94 : lw_tbl[(pwF 94).1]? = some (Cond.code (myF 94) (mcF 94) (mlF 94) (mrF 94)) := rfl
set_option maxRecDepth 100000 in
theorem pc_k95 : lw_tbl[(pwF 95).1]? = some (Cond.code (myF 95) (mcF 95) (mlF 95) (mrF 95)) := rfl
set_option maxRecDepth 100000 in
theorem pc_k96 : lw_tbl[(pwF 96).1]? = some (Cond.code (myF 96) (mcF 96) (mlF 96) (mrF 96)) := rfl
set_option maxRecDepth 100000 in
theorem pc_k97 : lw_tbl[(pwF 97).1]? = some (Cond.code (myF 97) (mcF 97) (mlF 97) (mrF 97)) := rfl
set_option maxRecDepth 100000 in
theorem pc_k98 : lw_tbl[(pwF 98).1]? = some (Cond.code (myF 98) (mcF 98) (mlF 98) (mrF 98)) := rfl
set_option maxRecDepth 100000 in
theorem pc_k99 : lw_tbl[(pwF 99).1]? = some (Cond.code (myF 99) (mcF 99) (mlF 99) (mrF 99)) := rfl
set_option maxRecDepth 100000 in
theorem pc_k100 : lw_tbl[(pwF 100).1]? = some (Cond.code (myF 100) (mcF 100) (mlF 100) (mrF 100)) := rfl
set_option maxRecDepth 100000 in
theorem pc_k101 : lw_tbl[(pwF 101).1]? = some (Cond.code (myF 101) (mcF 101) (mlF 101) (mrF 101)) := rfl
set_option maxRecDepth 100000 in
theorem pc_k102 : lw_tbl[(pwF 102).1]? = some (Cond.code (myF 102) (mcF 102) (mlF 102) (mrF 102)) := rfl
set_option maxRecDepth 100000 in
theorem pc_k103 : lw_tbl[(pwF 103).1]? = some (Cond.code (myF 103) (mcF 103) (mlF 103) (mrF 103)) := rfl
set_option maxRecDepth 100000 in
theorem pc_k104 : lw_tbl[(pwF 104).1]? = some (Cond.code (myF 104) (mcF 104) (mlF 104) (mrF 104)) := rfl
set_option maxRecDepth 100000 in
theorem pc_k105 : lw_tbl[(pwF 105).1]? = some (Cond.code (myF 105) (mcF 105) (mlF 105) (mrF 105)) := rfl
set_option maxRecDepth 100000 in
theorem pc_k106 : lw_tbl[(pwF 106).1]? = some (Cond.code (myF 106) (mcF 106) (mlF 106) (mrF 106)) := rfl
set_option maxRecDepth 100000 in
theorem pc_k107 : lw_tbl[(pwF 107).1]? = some (Cond.code (myF 107) (mcF 107) (mlF 107) (mrF 107)) := rfl
set_option maxRecDepth 100000 in
theorem pc_k108 : lw_tbl[(pwF 108).1]? = some (Cond.code (myF 108) (mcF 108) (mlF 108) (mrF 108)) := rfl
set_option maxRecDepth 100000 in
theorem pc_k109 : lw_tbl[(pwF 109).1]? = some (Cond.code (myF 109) (mcF 109) (mlF 109) (mrF 109)) := rfl
set_option maxRecDepth 100000 in
theorem pc_k110 : lw_tbl[(pwF 110).1]? = some (Cond.code (myF 110) (mcF 110) (mlF 110) (mrF 110)) := rfl
set_option maxRecDepth 100000 in
theorem pc_k111 : lw_tbl[(pwF 111).1]? = some (Cond.code (myF 111) (mcF 111) (mlF 111) (mrF 111)) := rfl
set_option maxRecDepth 100000 in
theorem pc_k112 : lw_tbl[(pwF 112).1]? = some (Cond.code (myF 112) (mcF 112) (mlF 112) (mrF 112)) := rfl
set_option maxRecDepth 100000 in
theorem pc_k113 : lw_tbl[(pwF 113).1]? = some (Cond.code (myF 113) (mcF 113) (mlF 113) (mrF 113)) := rfl
set_option maxRecDepth 100000 in
theorem pc_k114 : lw_tbl[(pwF 114).1]? = some (Cond.code (myF 114) (mcF 114) (mlF 114) (mrF 114)) := rfl
set_option maxRecDepth 100000 in
theorem pc_k115 : lw_tbl[(pwF 115).1]? = some (Cond.code (myF 115) (mcF 115) (mlF 115) (mrF 115)) := rfl
set_option maxRecDepth 100000 in
theorem pc_k116 : lw_tbl[(pwF 116).1]? = some (Cond.code (myF 116) (mcF 116) (mlF 116) (mrF 116)) := rfl
set_option maxRecDepth 100000 in
theorem pc_k117 : lw_tbl[(pwF 117).1]? = some (Cond.code (myF 117) (mcF 117) (mlF 117) (mrF 117)) := rfl
set_option maxRecDepth 100000 in
theorem pc_k118 : lw_tbl[(pwF 118).1]? = some (Cond.code (myF 118) (mcF 118) (mlF 118) (mrF 118)) := rfl
set_option maxRecDepth 100000 in
theorem pc_k119 : lw_tbl[(pwF 119).1]? = some (Cond.code (myF 119) (mcF 119) (mlF 119) (mrF 119)) := rfl
set_option maxRecDepth 100000 in
theorem pc_k120 : lw_tbl[(pwF 120).1]? = some (Cond.code (myF 120) (mcF 120) (mlF 120) (mrF 120)) := rfl
set_option maxRecDepth 100000 in
theorem pc_k121 : lw_tbl[(pwF 121).1]? = some (Cond.code (myF 121) (mcF 121) (mlF 121) (mrF 121)) := rfl
set_option maxRecDepth 100000 in
theorem pc_k122 : lw_tbl[(pwF 122).1]? = some (Cond.code (myF 122) (mcF 122) (mlF 122) (mrF 122)) := rfl
set_option maxRecDepth 100000 in
theorem pc_k123 : lw_tbl[(pwF 123).1]? = some (Cond.code (myF 123) (mcF 123) (mlF 123) (mrF 123)) := rfl
set_option maxRecDepth 100000 in
theorem pc_k124 : lw_tbl[(pwF 124).1]? = some (Cond.code (myF 124) (mcF 124) (mlF 124) (mrF 124)) := rfl
set_option maxRecDepth 100000 in
theorem pc_k125 : lw_tbl[(pwF 125).1]? = some (Cond.code (myF 125) (mcF 125) (mlF 125) (mrF 125)) := rfl
set_option maxRecDepth 100000 in
theorem pc_k126 : lw_tbl[(pwF 126).1]? = some (Cond.code (myF 126) (mcF 126) (mlF 126) (mrF 126)) := rfl
set_option maxRecDepth 100000 in
theorem pc_k127 : lw_tbl[(pwF 127).1]? = some (Cond.code (myF 127) (mcF 127) (mlF 127) (mrF 127)) := rfl
set_option maxRecDepth 100000 in
theorem pc_k128 : lw_tbl[(pwF 128).1]? = some (Cond.code (myF 128) (mcF 128) (mlF 128) (mrF 128)) := rfl
set_option maxRecDepth 100000 in
theorem pc_k129 : lw_tbl[(pwF 129).1]? = some (Cond.code (myF 129) (mcF 129) (mlF 129) (mrF 129)) := rfl
set_option maxRecDepth 100000 in
theorem pc_k130 : lw_tbl[(pwF 130).1]? = some (Cond.code (myF 130) (mcF 130) (mlF 130) (mrF 130)) := rfl
set_option maxRecDepth 100000 in
theorem pc_k131 : lw_tbl[(pwF 131).1]? = some (Cond.code (myF 131) (mcF 131) (mlF 131) (mrF 131)) := rfl
set_option maxRecDepth 100000 in
theorem pc_k132 : lw_tbl[(pwF 132).1]? = some (Cond.code (myF 132) (mcF 132) (mlF 132) (mrF 132)) := rfl
set_option maxRecDepth 100000 in
theorem pc_k133 : lw_tbl[(pwF 133).1]? = some (Cond.code (myF 133) (mcF 133) (mlF 133) (mrF 133)) := rfl
set_option maxRecDepth 100000 in
theorem pc_k134 : lw_tbl[(pwF 134).1]? = some (Cond.code (myF 134) (mcF 134) (mlF 134) (mrF 134)) := rfl
set_option maxRecDepth 100000 in
theorem pc_k135 : lw_tbl[(pwF 135).1]? = some (Cond.code (myF 135) (mcF 135) (mlF 135) (mrF 135)) := rfl
set_option maxRecDepth 100000 in
theorem pc_k136 : lw_tbl[(pwF 136).1]? = some (Cond.code (myF 136) (mcF 136) (mlF 136) (mrF 136)) := rfl
set_option maxRecDepth 100000 in
theorem pc_k137 : lw_tbl[(pwF 137).1]? = some (Cond.code (myF 137) (mcF 137) (mlF 137) (mrF 137)) := rfl
set_option maxRecDepth 100000 in
theorem pc_k138 : lw_tbl[(pwF 138).1]? = some (Cond.code (myF 138) (mcF 138) (mlF 138) (mrF 138)) := rfl
set_option maxRecDepth 100000 in
theorem pc_k139 : lw_tbl[(pwF 139).1]? = some (Cond.code (myF 139) (mcF 139) (mlF 139) (mrF 139)) := rfl
set_option maxRecDepth 100000 in
theorem pc_k140 : lw_tbl[(pwF 140).1]? = some (Cond.code (myF 140) (mcF 140) (mlF 140) (mrF 140)) := rfl
set_option maxRecDepth 100000 in
theorem pc_k141 : lw_tbl[(pwF 141).1]? = some (Cond.code (myF 141) (mcF 141) (mlF 141) (mrF 141)) := rfl
set_option maxRecDepth 100000 in
theorem pc_k142 : lw_tbl[(pwF 142).1]? = some (Cond.code (myF 142) (mcF 142) (mlF 142) (mrF 142)) := rfl
set_option maxRecDepth 100000 in
theorem pc_k143 : lw_tbl[(pwF 143).1]? = some (Cond.code (myF 143) (mcF 143) (mlF 143) (mrF 143)) := rfl
set_option maxRecDepth 100000 in
theorem pc_k144 : lw_tbl[(pwF 144).1]? = some (Cond.code (myF 144) (mcF 144) (mlF 144) (mrF 144)) := rfl
set_option maxRecDepth 100000 in
theorem pc_k145 : lw_tbl[(pwF 145).1]? = some (Cond.code (myF 145) (mcF 145) (mlF 145) (mrF 145)) := rfl
set_option maxRecDepth 100000 in
theorem pc_k146 : lw_tbl[(pwF 146).1]? = some (Cond.code (myF 146) (mcF 146) (mlF 146) (mrF 146)) := rfl
set_option maxRecDepth 100000 in
theorem pc_k147 : lw_tbl[(pwF 147).1]? = some (Cond.code (myF 147) (mcF 147) (mlF 147) (mrF 147)) := rfl
set_option maxRecDepth 100000 in
theorem pc_k148 : lw_tbl[(pwF 148).1]? = some (Cond.code (myF 148) (mcF 148) (mlF 148) (mrF 148)) := rfl
set_option maxRecDepth 100000 in
theorem pc_k149 : lw_tbl[(pwF 149).1]? = some (Cond.code (myF 149) (mcF 149) (mlF 149) (mrF 149)) := rfl
set_option maxRecDepth 100000 in
theorem pc_k150 : lw_tbl[(pwF 150).1]? = some (Cond.code (myF 150) (mcF 150) (mlF 150) (mrF 150)) := rfl
set_option maxRecDepth 100000 in
theorem pc_k151 : lw_tbl[(pwF 151).1]? = some (Cond.code (myF 151) (mcF 151) (mlF 151) (mrF 151)) := rfl
set_option maxRecDepth 100000 in
theorem pc_k152 : lw_tbl[(pwF 152).1]? = some (Cond.code (myF 152) (mcF 152) (mlF 152) (mrF 152)) := rfl
set_option maxRecDepth 100000 in
theorem pc_k153 : lw_tbl[(pwF 153).1]? = some (Cond.code (myF 153) (mcF 153) (mlF 153) (mrF 153)) := rfl
set_option maxRecDepth 100000 in
theorem pc_k154 : lw_tbl[(pwF 154).1]? = some (Cond.code (myF 154) (mcF 154) (mlF 154) (mrF 154)) := rfl
set_option maxRecDepth 100000 in
theorem pc_k155 : lw_tbl[(pwF 155).1]? = some (Cond.code (myF 155) (mcF 155) (mlF 155) (mrF 155)) := rfl
set_option maxRecDepth 100000 in
theorem pc_k156 : lw_tbl[(pwF 156).1]? = some (Cond.code (myF 156) (mcF 156) (mlF 156) (mrF 156)) := rfl
set_option maxRecDepth 100000 in
theorem pc_k157 : lw_tbl[(pwF 157).1]? = some (Cond.code (myF 157) (mcF 157) (mlF 157) (mrF 157)) := rfl
set_option maxRecDepth 100000 in
theorem pc_k158 : lw_tbl[(pwF 158).1]? = some (Cond.code (myF 158) (mcF 158) (mlF 158) (mrF 158)) := rfl
set_option maxRecDepth 100000 in
theorem pc_k159 : lw_tbl[(pwF 159).1]? = some (Cond.code (myF 159) (mcF 159) (mlF 159) (mrF 159)) := rfl
set_option maxRecDepth 100000 in
theorem pc_k160 : lw_tbl[(pwF 160).1]? = some (Cond.code (myF 160) (mcF 160) (mlF 160) (mrF 160)) := rfl
set_option maxRecDepth 100000 in
theorem pc_k161 : lw_tbl[(pwF 161).1]? = some (Cond.code (myF 161) (mcF 161) (mlF 161) (mrF 161)) := rfl
set_option maxRecDepth 100000 in
theorem pc_k162 : lw_tbl[(pwF 162).1]? = some (Cond.code (myF 162) (mcF 162) (mlF 162) (mrF 162)) := rfl
set_option maxRecDepth 100000 in
theorem pc_k163 : lw_tbl[(pwF 163).1]? = some (Cond.code (myF 163) (mcF 163) (mlF 163) (mrF 163)) := rfl
set_option maxRecDepth 100000 in
theorem pc_k164 : lw_tbl[(pwF 164).1]? = some (Cond.code (myF 164) (mcF 164) (mlF 164) (mrF 164)) := rfl
set_option maxRecDepth 100000 in
theorem pc_k165 : lw_tbl[(pwF 165).1]? = some (Cond.code (myF 165) (mcF 165) (mlF 165) (mrF 165)) := rfl
set_option maxRecDepth 100000 in
theorem pc_k166 : lw_tbl[(pwF 166).1]? = some (Cond.code (myF 166) (mcF 166) (mlF 166) (mrF 166)) := rfl
set_option maxRecDepth 100000 in
theorem pc_k167 : lw_tbl[(pwF 167).1]? = some (Cond.code (myF 167) (mcF 167) (mlF 167) (mrF 167)) := rfl
set_option maxRecDepth 100000 in
theorem pc_k168 : lw_tbl[(pwF 168).1]? = some (Cond.code (myF 168) (mcF 168) (mlF 168) (mrF 168)) := rfl
set_option maxRecDepth 100000 in
theorem pc_k169 : lw_tbl[(pwF 169).1]? = some (Cond.code (myF 169) (mcF 169) (mlF 169) (mrF 169)) := rfl
set_option maxRecDepth 100000 in
theorem pc_k170 : lw_tbl[(pwF 170).1]? = some (Cond.code (myF 170) (mcF 170) (mlF 170) (mrF 170)) := rfl
set_option maxRecDepth 100000 in
theorem pc_k171 : lw_tbl[(pwF 171).1]? = some (Cond.code (myF 171) (mcF 171) (mlF 171) (mrF 171)) := rfl
set_option maxRecDepth 100000 in
theorem pc_k172 : lw_tbl[(pwF 172).1]? = some (Cond.code (myF 172) (mcF 172) (mlF 172) (mrF 172)) := rfl
set_option maxRecDepth 100000 in
theorem pc_k173 : lw_tbl[(pwF 173).1]? = some (Cond.code (myF 173) (mcF 173) (mlF 173) (mrF 173)) := rfl
set_option maxRecDepth 100000 in
theorem pc_k174 : lw_tbl[(pwF 174).1]? = some (Cond.code (myF 174) (mcF 174) (mlF 174) (mrF 174)) := rfl
set_option maxRecDepth 100000 in
theorem pc_k175 : lw_tbl[(pwF 175).1]? = some (Cond.code (myF 175) (mcF 175) (mlF 175) (mrF 175)) := rfl
set_option maxRecDepth 100000 in
theorem pc_k176 : lw_tbl[(pwF 176).1]? = some (Cond.code (myF 176) (mcF 176) (mlF 176) (mrF 176)) := rfl
set_option maxRecDepth 100000 in
theorem pc_k177 : lw_tbl[(pwF 177).1]? = some (Cond.code (myF 177) (mcF 177) (mlF 177) (mrF 177)) := rfl
set_option maxRecDepth 100000 in
theorem pc_k178 : lw_tbl[(pwF 178).1]? = some (Cond.code (myF 178) (mcF 178) (mlF 178) (mrF 178)) := rfl
set_option maxRecDepth 100000 in
set_option maxHeartbeats 4000000 in
theorem pc_ok : ∀ m, m < 179 → lw_tbl[(pwF m).1]? = some (Cond.code (myF m) (mcF m) (mlF m) (mrF m)) := by
  intro m hm
  match m, hm with
  | 0, _ => exact pc_k0
  | 1, _ => exact pc_k1
  | 2, _ => exact pc_k2
  | 3, _ => exact pc_k3
  | 4, _ => exact pc_k4
  | 5, _ => exact pc_k5
  | 6, _ => exact pc_k6
  | 7, _ => exact pc_k7
  | 8, _ => exact pc_k8
  | 9, _ => exact pc_k9
  | 10, _ => exact pc_k10
  | 11, _ => exact pc_k11
  | 12, _ => exact pc_k12
  | 13, _ => exact pc_k13
  | 14, _ => exact pc_k14
  | 15, _ => exact pc_k15
  | 16, _ => exact pc_k16
  | 17, _ => exact pc_k17
  | 18, _ => exact pc_k18
  | 19, _ => exact pc_k19
  | 20, _ => exact pc_k20
  | 21, _ => exact pc_k21
  | 22, _ => exact pc_k22
  | 23, _ => exact pc_k23
  | 24, _ => exact pc_k24
  | 25, _ => exact pc_k25
  | 26, _ => exact pc_k26
  | 27, _ => exact pc_k27
  | 28, _ => exact pc_k28
  | 29, _ => exact pc_k29
  | 30, _ => exact pc_k30
  | 31, _ => exact pc_k31
  | 32, _ => exact pc_k32
  | 33, _ => exact pc_k33
  | 34, _ => exact pc_k34
  | 35, _ => exact pc_k35
  | 36, _ => exact pc_k36
  | 37, _ => exact pc_k37
  | 38, _ => exact pc_k38
  | 39, _ => exact pc_k39
  | 40, _ => exact pc_k40
  | 41, _ => exact pc_k41
  | 42, _ => exact pc_k42
  | 43, _ => exact pc_k43
  | 44, _ => exact pc_k44
  | 45, _ => exact pc_k45
  | 46, _ => exact pc_k46
  | 47, _ => exact pc_k47
  | 48, _ => exact pc_k48
  | 49, _ => exact pc_k49
  | 50, _ => exact pc_k50
  | 51, _ => exact pc_k51
  | 52, _ => exact pc_k52
  | 53, _ => exact pc_k53
  | 54, _ => exact pc_k54
  | 55, _ => exact pc_k55
  | 56, _ => exact pc_k56
  | 57, _ => exact pc_k57
  | 58, _ => exact pc_k58
  | 59, _ => exact pc_k59
  | 60, _ => exact pc_k60
  | 61, _ => exact pc_k61
  | 62, _ => exact pc_k62
  | 63, _ => exact pc_k63
  | 64, _ => exact pc_k64
  | 65, _ => exact pc_k65
  | 66, _ => exact pc_k66
  | 67, _ => exact pc_k67
  | 68, _ => exact pc_k68
  | 69, _ => exact pc_k69
  | 70, _ => exact pc_k70
  | 71, _ => exact pc_k71
  | 72, _ => exact pc_k72
  | 73, _ => exact pc_k73
  | 74, _ => exact pc_k74
  | 75, _ => exact pc_k75
  | 76, _ => exact pc_k76
  | 77, _ => exact pc_k77
  | 78, _ => exact pc_k78
  | 79, _ => exact pc_k79
  | 80, _ => exact pc_k80
  | 81, _ => exact pc_k81
  | 82, _ => exact pc_k82
  | 83, _ => exact pc_k83
  | 84, _ => exact pc_k84
  | 85, _ => exact pc_k85
  | 86, _ => exact pc_k86
  | 87, _ => exact pc_k87
  | 88, _ => exact pc_k88
  | 89, _ => exact pc_k89
  | 90, _ => exact pc_k90
  | 91, _ => exact pc_k91
  | 92, _ => exact pc_k92
  | 93, _ => exact pc_k93
  | 94, _ => exact pc_k94
  | 95, _ => exact pc_k95
  | 96, _ => exact pc_k96
  | 97, _ => exact pc_k97
  | 98, _ => exact pc_k98
  | 99, _ => exact pc_k99
  | 100, _ => exact pc_k100
  | 101, _ => exact pc_k101
  | 102, _ => exact pc_k102
  | 103, _ => exact pc_k103
  | 104, _ => exact pc_k104
  | 105, _ => exact pc_k105
  | 106, _ => exact pc_k106
  | 107, _ => exact pc_k107
  | 108, _ => exact pc_k108
  | 109, _ => exact pc_k109
  | 110, _ => exact pc_k110
  | 111, _ => exact pc_k111
  | 112, _ => exact pc_k112
  | 113, _ => exact pc_k113
  | 114, _ => exact pc_k114
  | 115, _ => exact pc_k115
  | 116, _ => exact pc_k116
  | 117, _ => exact pc_k117
  | 118, _ => exact pc_k118
  | 119, _ => exact pc_k119
  | 120, _ => exact pc_k120
  | 121, _ => exact pc_k121
  | 122, _ => exact pc_k122
  | 123, _ => exact pc_k123
  | 124, _ => exact pc_k124
  | 125, _ => exact pc_k125
  | 126, _ => exact pc_k126
  | 127, _ => exact pc_k127
  | 128, _ => exact pc_k128
  | 129, _ => exact pc_k129
  | 130, _ => exact pc_k130
  | 131, _ => exact pc_k131
  | 132, _ => exact pc_k132
  | 133, _ => exact pc_k133
  | 134, _ => exact pc_k134
  | 135, _ => exact pc_k135
  | 136, _ => exact pc_k136
  | 137, _ => exact pc_k137
  | 138, _ => exact pc_k138
  | 139, _ => exact pc_k139
  | 140, _ => exact pc_k140
  | 141, _ => exact pc_k141
  | 142, _ => exact pc_k142
  | 143, _ => exact pc_k143
  | 144, _ => exact pc_k144
  | 145, _ => exact pc_k145
  | 146, _ => exact pc_k146
  | 147, _ => exact pc_k147
  | 148, _ => exact pc_k148
  | 149, _ => exact pc_k149
  | 150, _ => exact pc_k150
  | 151, _ => exact pc_k151
  | 152, _ => exact pc_k152
  | 153, _ => exact pc_k153
  | 154, _ => exact pc_k154
  | 155, _ => exact pc_k155
  | 156, _ => exact pc_k156
  | 157, _ => exact pc_k157
  | 158, _ => exact pc_k158
  | 159, _ => exact pc_k159
  | 160, _ => exact pc_k160
  | 161, _ => exact pc_k161
  | 162, _ => exact pc_k162
  | 163, _ => exact pc_k163
  | 164, _ => exact pc_k164
  | 165, _ => exact pc_k165
  | 166, _ => exact pc_k166
  | 167, _ => exact pc_k167
  | 168, _ => exact pc_k168
  | 169, _ => exact pc_k169
  | 170, _ => exact pc_k170
  | 171, _ => exact pc_k171
  | 172, _ => exact pc_k172
  | 173, _ => exact pc_k173
  | 174, _ => exact pc_k174
  | 175, _ => exact pc_k175
  | 176, _ => exact pc_k176
  | 177, _ => exact pc_k177
  | 178, _ => exact pc_k178
  | m + 179, h => exact absurd h (by omega)
