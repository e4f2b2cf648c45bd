theorem pc_0 : lw_tbl[567]? = some (.code (pm_y 0) (pm_cd 0) (pm_ml 0) (pm_rt 0)) := by decide +kernel
theorem pc_1 : lw_tbl[1070]? = some (.code (pm_y 1) (pm_cd 1) (pm_ml 1) (pm_rt 1)) := by decide +kernel
theorem pc_2 : lw_tbl[1383]? = some (.code (pm_y 2) (pm_cd 2) (pm_ml 2) (pm_rt 2)) := by decide +kernel
theorem pc_3 : lw_tbl[1394]? = some (.code (pm_y 3) (pm_cd 3) (pm_ml 3) (pm_rt 3)) := by decide +kernel
theorem pc_4 : lw_tbl[1423]? = some (.code (pm_y 4) (pm_cd 4) (pm_ml 4) (pm_rt 4)) := by decide +kernel
theorem pc_5 : lw_tbl[1428]? = some (.code (pm_y 5) (pm_cd 5) (pm_ml 5) (pm_rt 5)) := by decide +kernel
theorem pc_6 : lw_tbl[1433]? = some (.code (pm_y 6) (pm_cd 6) (pm_ml 6) (pm_rt 6)) := by decide +kernel
theorem pc_7 : lw_tbl[1387]? = some (.code (pm_y 7) (pm_cd 7) (pm_ml 7) (pm_rt 7)) := by decide +kernel
theorem pc_8 : lw_tbl[1398]? = some (.code (pm_y 8) (pm_cd 8) (pm_ml 8) (pm_rt 8)) := by decide +kernel
theorem pc_9 : lw_tbl[1415]? = some (.code (pm_y 9) (pm_cd 9) (pm_ml 9) (pm_rt 9)) := by decide +kernel
theorem pc_10 : lw_tbl[1402]? = some (.code (pm_y 10) (pm_cd 10) (pm_ml 10) (pm_rt 10)) := by decide +kernel
theorem pc_11 : lw_tbl[1406]? = some (.code (pm_y 11) (pm_cd 11) (pm_ml 11) (pm_rt 11)) := by decide +kernel
theorem pc_12 : lw_tbl[237]? = some (.code (pm_y 12) (pm_cd 12) (pm_ml 12) (pm_rt 12)) := by decide +kernel
theorem pc_13 : lw_tbl[798]? = some (.code (pm_y 13) (pm_cd 13) (pm_ml 13) (pm_rt 13)) := by decide +kernel
theorem pc_14 : lw_tbl[923]? = some (.code (pm_y 14) (pm_cd 14) (pm_ml 14) (pm_rt 14)) := by decide +kernel
theorem pc_15 : lw_tbl[927]? = some (.code (pm_y 15) (pm_cd 15) (pm_ml 15) (pm_rt 15)) := by decide +kernel
theorem pc_16 : lw_tbl[947]? = some (.code (pm_y 16) (pm_cd 16) (pm_ml 16) (pm_rt 16)) := by decide +kernel
theorem pc_17 : lw_tbl[1239]? = some (.code (pm_y 17) (pm_cd 17) (pm_ml 17) (pm_rt 17)) := by decide +kernel
theorem pc_18 : lw_tbl[1243]? = some (.code (pm_y 18) (pm_cd 18) (pm_ml 18) (pm_rt 18)) := by decide +kernel
theorem pc_19 : lw_tbl[1247]? = some (.code (pm_y 19) (pm_cd 19) (pm_ml 19) (pm_rt 19)) := by decide +kernel
theorem pc_20 : lw_tbl[1184]? = some (.code (pm_y 20) (pm_cd 20) (pm_ml 20) (pm_rt 20)) := by decide +kernel
theorem pc_21 : lw_tbl[1469]? = some (.code (pm_y 21) (pm_cd 21) (pm_ml 21) (pm_rt 21)) := by decide +kernel
theorem pc_22 : lw_tbl[514]? = some (.code (pm_y 22) (pm_cd 22) (pm_ml 22) (pm_rt 22)) := by decide +kernel
theorem pc_23 : lw_tbl[1065]? = some (.code (pm_y 23) (pm_cd 23) (pm_ml 23) (pm_rt 23)) := by decide +kernel
theorem pc_24 : lw_tbl[1276]? = some (.code (pm_y 24) (pm_cd 24) (pm_ml 24) (pm_rt 24)) := by decide +kernel
theorem pc_25 : lw_tbl[1140]? = some (.code (pm_y 25) (pm_cd 25) (pm_ml 25) (pm_rt 25)) := by decide +kernel
theorem pc_26 : lw_tbl[1268]? = some (.code (pm_y 26) (pm_cd 26) (pm_ml 26) (pm_rt 26)) := by decide +kernel
theorem pc_27 : lw_tbl[1235]? = some (.code (pm_y 27) (pm_cd 27) (pm_ml 27) (pm_rt 27)) := by decide +kernel
theorem pc_28 : lw_tbl[1285]? = some (.code (pm_y 28) (pm_cd 28) (pm_ml 28) (pm_rt 28)) := by decide +kernel
theorem pc_29 : lw_tbl[1289]? = some (.code (pm_y 29) (pm_cd 29) (pm_ml 29) (pm_rt 29)) := by decide +kernel
theorem pc_30 : lw_tbl[1231]? = some (.code (pm_y 30) (pm_cd 30) (pm_ml 30) (pm_rt 30)) := by decide +kernel
theorem pc_31 : lw_tbl[1306]? = some (.code (pm_y 31) (pm_cd 31) (pm_ml 31) (pm_rt 31)) := by decide +kernel
theorem pc_32 : lw_tbl[1311]? = some (.code (pm_y 32) (pm_cd 32) (pm_ml 32) (pm_rt 32)) := by decide +kernel
theorem pc_33 : lw_tbl[1297]? = some (.code (pm_y 33) (pm_cd 33) (pm_ml 33) (pm_rt 33)) := by decide +kernel
theorem pc_34 : lw_tbl[1445]? = some (.code (pm_y 34) (pm_cd 34) (pm_ml 34) (pm_rt 34)) := by decide +kernel
theorem pc_35 : lw_tbl[1461]? = some (.code (pm_y 35) (pm_cd 35) (pm_ml 35) (pm_rt 35)) := by decide +kernel
theorem pc_36 : lw_tbl[1453]? = some (.code (pm_y 36) (pm_cd 36) (pm_ml 36) (pm_rt 36)) := by decide +kernel
theorem pc_37 : lw_tbl[1449]? = some (.code (pm_y 37) (pm_cd 37) (pm_ml 37) (pm_rt 37)) := by decide +kernel
theorem pc_38 : lw_tbl[1221]? = some (.code (pm_y 38) (pm_cd 38) (pm_ml 38) (pm_rt 38)) := by decide +kernel
theorem pc_39 : lw_tbl[245]? = some (.code (pm_y 39) (pm_cd 39) (pm_ml 39) (pm_rt 39)) := by decide +kernel
theorem pc_40 : lw_tbl[809]? = some (.code (pm_y 40) (pm_cd 40) (pm_ml 40) (pm_rt 40)) := by decide +kernel
theorem pc_41 : lw_tbl[982]? = some (.code (pm_y 41) (pm_cd 41) (pm_ml 41) (pm_rt 41)) := by decide +kernel
theorem pc_42 : lw_tbl[1038]? = some (.code (pm_y 42) (pm_cd 42) (pm_ml 42) (pm_rt 42)) := by decide +kernel
theorem pc_43 : lw_tbl[1006]? = some (.code (pm_y 43) (pm_cd 43) (pm_ml 43) (pm_rt 43)) := by decide +kernel
theorem pc_44 : lw_tbl[978]? = some (.code (pm_y 44) (pm_cd 44) (pm_ml 44) (pm_rt 44)) := by decide +kernel
theorem pc_45 : lw_tbl[1205]? = some (.code (pm_y 45) (pm_cd 45) (pm_ml 45) (pm_rt 45)) := by decide +kernel
theorem pc_46 : lw_tbl[1159]? = some (.code (pm_y 46) (pm_cd 46) (pm_ml 46) (pm_rt 46)) := by decide +kernel
theorem pc_47 : lw_tbl[1162]? = some (.code (pm_y 47) (pm_cd 47) (pm_ml 47) (pm_rt 47)) := by decide +kernel
theorem pc_48 : lw_tbl[389]? = some (.code (pm_y 48) (pm_cd 48) (pm_ml 48) (pm_rt 48)) := by decide +kernel
theorem pc_49 : lw_tbl[1104]? = some (.code (pm_y 49) (pm_cd 49) (pm_ml 49) (pm_rt 49)) := by decide +kernel
theorem pc_50 : lw_tbl[814]? = some (.code (pm_y 50) (pm_cd 50) (pm_ml 50) (pm_rt 50)) := by decide +kernel
theorem pc_51 : lw_tbl[821]? = some (.code (pm_y 51) (pm_cd 51) (pm_ml 51) (pm_rt 51)) := by decide +kernel
theorem pc_52 : lw_tbl[825]? = some (.code (pm_y 52) (pm_cd 52) (pm_ml 52) (pm_rt 52)) := by decide +kernel
theorem pc_53 : lw_tbl[829]? = some (.code (pm_y 53) (pm_cd 53) (pm_ml 53) (pm_rt 53)) := by decide +kernel
theorem pc_54 : lw_tbl[183]? = some (.code (pm_y 54) (pm_cd 54) (pm_ml 54) (pm_rt 54)) := by decide +kernel
theorem pc_55 : lw_tbl[966]? = some (.code (pm_y 55) (pm_cd 55) (pm_ml 55) (pm_rt 55)) := by decide +kernel
theorem pc_56 : lw_tbl[1046]? = some (.code (pm_y 56) (pm_cd 56) (pm_ml 56) (pm_rt 56)) := by decide +kernel
theorem pc_57 : lw_tbl[802]? = some (.code (pm_y 57) (pm_cd 57) (pm_ml 57) (pm_rt 57)) := by decide +kernel
theorem pc_58 : lw_tbl[1116]? = some (.code (pm_y 58) (pm_cd 58) (pm_ml 58) (pm_rt 58)) := by decide +kernel
theorem pc_59 : lw_tbl[1120]? = some (.code (pm_y 59) (pm_cd 59) (pm_ml 59) (pm_rt 59)) := by decide +kernel
theorem pc_60 : lw_tbl[1128]? = some (.code (pm_y 60) (pm_cd 60) (pm_ml 60) (pm_rt 60)) := by decide +kernel
theorem pc_61 : lw_tbl[1132]? = some (.code (pm_y 61) (pm_cd 61) (pm_ml 61) (pm_rt 61)) := by decide +kernel
theorem pc_62 : lw_tbl[1192]? = some (.code (pm_y 62) (pm_cd 62) (pm_ml 62) (pm_rt 62)) := by decide +kernel
theorem pc_63 : lw_tbl[1086]? = some (.code (pm_y 63) (pm_cd 63) (pm_ml 63) (pm_rt 63)) := by decide +kernel
theorem pc_64 : lw_tbl[1093]? = some (.code (pm_y 64) (pm_cd 64) (pm_ml 64) (pm_rt 64)) := by decide +kernel
theorem pc_65 : lw_tbl[1089]? = some (.code (pm_y 65) (pm_cd 65) (pm_ml 65) (pm_rt 65)) := by decide +kernel
theorem pc_66 : lw_tbl[383]? = some (.code (pm_y 66) (pm_cd 66) (pm_ml 66) (pm_rt 66)) := by decide +kernel
theorem pc_67 : lw_tbl[794]? = some (.code (pm_y 67) (pm_cd 67) (pm_ml 67) (pm_rt 67)) := by decide +kernel
theorem pc_68 : lw_tbl[1042]? = some (.code (pm_y 68) (pm_cd 68) (pm_ml 68) (pm_rt 68)) := by decide +kernel
theorem pc_69 : lw_tbl[895]? = some (.code (pm_y 69) (pm_cd 69) (pm_ml 69) (pm_rt 69)) := by decide +kernel
theorem pc_70 : lw_tbl[891]? = some (.code (pm_y 70) (pm_cd 70) (pm_ml 70) (pm_rt 70)) := by decide +kernel
theorem pc_71 : lw_tbl[935]? = some (.code (pm_y 71) (pm_cd 71) (pm_ml 71) (pm_rt 71)) := by decide +kernel
theorem pc_72 : lw_tbl[1010]? = some (.code (pm_y 72) (pm_cd 72) (pm_ml 72) (pm_rt 72)) := by decide +kernel
theorem pc_73 : lw_tbl[931]? = some (.code (pm_y 73) (pm_cd 73) (pm_ml 73) (pm_rt 73)) := by decide +kernel
theorem pc_74 : lw_tbl[1014]? = some (.code (pm_y 74) (pm_cd 74) (pm_ml 74) (pm_rt 74)) := by decide +kernel
theorem pc_75 : lw_tbl[903]? = some (.code (pm_y 75) (pm_cd 75) (pm_ml 75) (pm_rt 75)) := by decide +kernel
theorem pc_76 : lw_tbl[919]? = some (.code (pm_y 76) (pm_cd 76) (pm_ml 76) (pm_rt 76)) := by decide +kernel
theorem pc_77 : lw_tbl[915]? = some (.code (pm_y 77) (pm_cd 77) (pm_ml 77) (pm_rt 77)) := by decide +kernel
theorem pc_78 : lw_tbl[963]? = some (.code (pm_y 78) (pm_cd 78) (pm_ml 78) (pm_rt 78)) := by decide +kernel
theorem pc_79 : lw_tbl[955]? = some (.code (pm_y 79) (pm_cd 79) (pm_ml 79) (pm_rt 79)) := by decide +kernel
theorem pc_80 : lw_tbl[959]? = some (.code (pm_y 80) (pm_cd 80) (pm_ml 80) (pm_rt 80)) := by decide +kernel
theorem pc_81 : lw_tbl[911]? = some (.code (pm_y 81) (pm_cd 81) (pm_ml 81) (pm_rt 81)) := by decide +kernel
theorem pc_82 : lw_tbl[899]? = some (.code (pm_y 82) (pm_cd 82) (pm_ml 82) (pm_rt 82)) := by decide +kernel
theorem pc_83 : lw_tbl[974]? = some (.code (pm_y 83) (pm_cd 83) (pm_ml 83) (pm_rt 83)) := by decide +kernel
theorem pc_84 : lw_tbl[907]? = some (.code (pm_y 84) (pm_cd 84) (pm_ml 84) (pm_rt 84)) := by decide +kernel
theorem pc_85 : lw_tbl[939]? = some (.code (pm_y 85) (pm_cd 85) (pm_ml 85) (pm_rt 85)) := by decide +kernel
theorem pc_86 : lw_tbl[943]? = some (.code (pm_y 86) (pm_cd 86) (pm_ml 86) (pm_rt 86)) := by decide +kernel
theorem pc_87 : lw_tbl[951]? = some (.code (pm_y 87) (pm_cd 87) (pm_ml 87) (pm_rt 87)) := by decide +kernel
theorem pc_88 : lw_tbl[970]? = some (.code (pm_y 88) (pm_cd 88) (pm_ml 88) (pm_rt 88)) := by decide +kernel
theorem pc_89 : lw_tbl[1002]? = some (.code (pm_y 89) (pm_cd 89) (pm_ml 89) (pm_rt 89)) := by decide +kernel
theorem pc_90 : lw_tbl[998]? = some (.code (pm_y 90) (pm_cd 90) (pm_ml 90) (pm_rt 90)) := by decide +kernel
theorem pc_91 : lw_tbl[986]? = some (.code (pm_y 91) (pm_cd 91) (pm_ml 91) (pm_rt 91)) := by decide +kernel
theorem pc_92 : lw_tbl[990]? = some (.code (pm_y 92) (pm_cd 92) (pm_ml 92) (pm_rt 92)) := by decide +kernel
theorem pc_93 : lw_tbl[994]? = some (.code (pm_y 93) (pm_cd 93) (pm_ml 93) (pm_rt 93)) := by decide +kernel
theorem pc_94 : lw_tbl[1018]? = some (.code (pm_y 94) (pm_cd 94) (pm_ml 94) (pm_rt 94)) := by decide +kernel
theorem pc_95 : lw_tbl[1022]? = some (.code (pm_y 95) (pm_cd 95) (pm_ml 95) (pm_rt 95)) := by decide +kernel
theorem pc_96 : lw_tbl[1026]? = some (.code (pm_y 96) (pm_cd 96) (pm_ml 96) (pm_rt 96)) := by decide +kernel
theorem pc_97 : lw_tbl[1030]? = some (.code (pm_y 97) (pm_cd 97) (pm_ml 97) (pm_rt 97)) := by decide +kernel
theorem pc_98 : lw_tbl[1034]? = some (.code (pm_y 98) (pm_cd 98) (pm_ml 98) (pm_rt 98)) := by decide +kernel
theorem pc_99 : lw_tbl[681]? = some (.code (pm_y 99) (pm_cd 99) (pm_ml 99) (pm_rt 99)) := by decide +kernel
theorem pc_100 : lw_tbl[1053]? = some (.code (pm_y 100) (pm_cd 100) (pm_ml 100) (pm_rt 100)) := by decide +kernel
theorem pc_101 : lw_tbl[1320]? = some (.code (pm_y 101) (pm_cd 101) (pm_ml 101) (pm_rt 101)) := by decide +kernel
theorem pc_102 : lw_tbl[1371]? = some (.code (pm_y 102) (pm_cd 102) (pm_ml 102) (pm_rt 102)) := by decide +kernel
theorem pc_103 : lw_tbl[701]? = some (.code (pm_y 103) (pm_cd 103) (pm_ml 103) (pm_rt 103)) := by decide +kernel
theorem pc_104 : lw_tbl[1502]? = some (.code (pm_y 104) (pm_cd 104) (pm_ml 104) (pm_rt 104)) := by decide +kernel
theorem pc_105 : lw_tbl[1526]? = some (.code (pm_y 105) (pm_cd 105) (pm_ml 105) (pm_rt 105)) := by decide +kernel
theorem pc_106 : lw_tbl[1514]? = some (.code (pm_y 106) (pm_cd 106) (pm_ml 106) (pm_rt 106)) := by decide +kernel
theorem pc_107 : lw_tbl[1510]? = some (.code (pm_y 107) (pm_cd 107) (pm_ml 107) (pm_rt 107)) := by decide +kernel
theorem pc_108 : lw_tbl[1506]? = some (.code (pm_y 108) (pm_cd 108) (pm_ml 108) (pm_rt 108)) := by decide +kernel
theorem pc_109 : lw_tbl[1535]? = some (.code (pm_y 109) (pm_cd 109) (pm_ml 109) (pm_rt 109)) := by decide +kernel
theorem pc_110 : lw_tbl[1539]? = some (.code (pm_y 110) (pm_cd 110) (pm_ml 110) (pm_rt 110)) := by decide +kernel
theorem pc_111 : lw_tbl[1531]? = some (.code (pm_y 111) (pm_cd 111) (pm_ml 111) (pm_rt 111)) := by decide +kernel
theorem pc_112 : lw_tbl[497]? = some (.code (pm_y 112) (pm_cd 112) (pm_ml 112) (pm_rt 112)) := by decide +kernel
theorem pc_113 : lw_tbl[1188]? = some (.code (pm_y 113) (pm_cd 113) (pm_ml 113) (pm_rt 113)) := by decide +kernel
theorem pc_114 : lw_tbl[1197]? = some (.code (pm_y 114) (pm_cd 114) (pm_ml 114) (pm_rt 114)) := by decide +kernel
theorem pc_115 : lw_tbl[1213]? = some (.code (pm_y 115) (pm_cd 115) (pm_ml 115) (pm_rt 115)) := by decide +kernel
theorem pc_116 : lw_tbl[1209]? = some (.code (pm_y 116) (pm_cd 116) (pm_ml 116) (pm_rt 116)) := by decide +kernel
theorem pc_117 : lw_tbl[1216]? = some (.code (pm_y 117) (pm_cd 117) (pm_ml 117) (pm_rt 117)) := by decide +kernel
theorem pc_118 : lw_tbl[1200]? = some (.code (pm_y 118) (pm_cd 118) (pm_ml 118) (pm_rt 118)) := by decide +kernel
theorem pc_119 : lw_tbl[1153]? = some (.code (pm_y 119) (pm_cd 119) (pm_ml 119) (pm_rt 119)) := by decide +kernel
theorem pc_120 : lw_tbl[1227]? = some (.code (pm_y 120) (pm_cd 120) (pm_ml 120) (pm_rt 120)) := by decide +kernel
theorem pc_121 : lw_tbl[1346]? = some (.code (pm_y 121) (pm_cd 121) (pm_ml 121) (pm_rt 121)) := by decide +kernel
theorem pc_122 : lw_tbl[1145]? = some (.code (pm_y 122) (pm_cd 122) (pm_ml 122) (pm_rt 122)) := by decide +kernel
theorem pc_123 : lw_tbl[1150]? = some (.code (pm_y 123) (pm_cd 123) (pm_ml 123) (pm_rt 123)) := by decide +kernel
theorem pc_124 : lw_tbl[1180]? = some (.code (pm_y 124) (pm_cd 124) (pm_ml 124) (pm_rt 124)) := by decide +kernel
theorem pc_125 : lw_tbl[633]? = some (.code (pm_y 125) (pm_cd 125) (pm_ml 125) (pm_rt 125)) := by decide +kernel
theorem pc_126 : lw_tbl[1074]? = some (.code (pm_y 126) (pm_cd 126) (pm_ml 126) (pm_rt 126)) := by decide +kernel
theorem pc_127 : lw_tbl[1057]? = some (.code (pm_y 127) (pm_cd 127) (pm_ml 127) (pm_rt 127)) := by decide +kernel
theorem pc_128 : lw_tbl[1479]? = some (.code (pm_y 128) (pm_cd 128) (pm_ml 128) (pm_rt 128)) := by decide +kernel
theorem pc_129 : lw_tbl[1487]? = some (.code (pm_y 129) (pm_cd 129) (pm_ml 129) (pm_rt 129)) := by decide +kernel
theorem pc_130 : lw_tbl[1491]? = some (.code (pm_y 130) (pm_cd 130) (pm_ml 130) (pm_rt 130)) := by decide +kernel
theorem pc_131 : lw_tbl[175]? = some (.code (pm_y 131) (pm_cd 131) (pm_ml 131) (pm_rt 131)) := by decide +kernel
theorem pc_132 : lw_tbl[770]? = some (.code (pm_y 132) (pm_cd 132) (pm_ml 132) (pm_rt 132)) := by decide +kernel
theorem pc_133 : lw_tbl[782]? = some (.code (pm_y 133) (pm_cd 133) (pm_ml 133) (pm_rt 133)) := by decide +kernel
theorem pc_134 : lw_tbl[786]? = some (.code (pm_y 134) (pm_cd 134) (pm_ml 134) (pm_rt 134)) := by decide +kernel
theorem pc_135 : lw_tbl[1078]? = some (.code (pm_y 135) (pm_cd 135) (pm_ml 135) (pm_rt 135)) := by decide +kernel
theorem pc_136 : lw_tbl[1082]? = some (.code (pm_y 136) (pm_cd 136) (pm_ml 136) (pm_rt 136)) := by decide +kernel
theorem pc_137 : lw_tbl[1097]? = some (.code (pm_y 137) (pm_cd 137) (pm_ml 137) (pm_rt 137)) := by decide +kernel
theorem pc_138 : lw_tbl[1112]? = some (.code (pm_y 138) (pm_cd 138) (pm_ml 138) (pm_rt 138)) := by decide +kernel
theorem pc_139 : lw_tbl[1124]? = some (.code (pm_y 139) (pm_cd 139) (pm_ml 139) (pm_rt 139)) := by decide +kernel
theorem pc_140 : lw_tbl[1254]? = some (.code (pm_y 140) (pm_cd 140) (pm_ml 140) (pm_rt 140)) := by decide +kernel
theorem pc_141 : lw_tbl[1259]? = some (.code (pm_y 141) (pm_cd 141) (pm_ml 141) (pm_rt 141)) := by decide +kernel
theorem pc_142 : lw_tbl[1272]? = some (.code (pm_y 142) (pm_cd 142) (pm_ml 142) (pm_rt 142)) := by decide +kernel
theorem pc_143 : lw_tbl[1281]? = some (.code (pm_y 143) (pm_cd 143) (pm_ml 143) (pm_rt 143)) := by decide +kernel
theorem pc_144 : lw_tbl[1293]? = some (.code (pm_y 144) (pm_cd 144) (pm_ml 144) (pm_rt 144)) := by decide +kernel
theorem pc_145 : lw_tbl[1302]? = some (.code (pm_y 145) (pm_cd 145) (pm_ml 145) (pm_rt 145)) := by decide +kernel
theorem pc_146 : lw_tbl[1316]? = some (.code (pm_y 146) (pm_cd 146) (pm_ml 146) (pm_rt 146)) := by decide +kernel
theorem pc_147 : lw_tbl[1326]? = some (.code (pm_y 147) (pm_cd 147) (pm_ml 147) (pm_rt 147)) := by decide +kernel
theorem pc_148 : lw_tbl[1330]? = some (.code (pm_y 148) (pm_cd 148) (pm_ml 148) (pm_rt 148)) := by decide +kernel
theorem pc_149 : lw_tbl[1334]? = some (.code (pm_y 149) (pm_cd 149) (pm_ml 149) (pm_rt 149)) := by decide +kernel
theorem pc_150 : lw_tbl[1352]? = some (.code (pm_y 150) (pm_cd 150) (pm_ml 150) (pm_rt 150)) := by decide +kernel
theorem pc_151 : lw_tbl[1367]? = some (.code (pm_y 151) (pm_cd 151) (pm_ml 151) (pm_rt 151)) := by decide +kernel
theorem pc_152 : lw_tbl[1375]? = some (.code (pm_y 152) (pm_cd 152) (pm_ml 152) (pm_rt 152)) := by decide +kernel
theorem pc_153 : lw_tbl[1379]? = some (.code (pm_y 153) (pm_cd 153) (pm_ml 153) (pm_rt 153)) := by decide +kernel
theorem pc_154 : lw_tbl[1419]? = some (.code (pm_y 154) (pm_cd 154) (pm_ml 154) (pm_rt 154)) := by decide +kernel
theorem pc_155 : lw_tbl[1437]? = some (.code (pm_y 155) (pm_cd 155) (pm_ml 155) (pm_rt 155)) := by decide +kernel
theorem pc_156 : lw_tbl[1457]? = some (.code (pm_y 156) (pm_cd 156) (pm_ml 156) (pm_rt 156)) := by decide +kernel
theorem pc_157 : lw_tbl[1465]? = some (.code (pm_y 157) (pm_cd 157) (pm_ml 157) (pm_rt 157)) := by decide +kernel
theorem pc_158 : lw_tbl[1475]? = some (.code (pm_y 158) (pm_cd 158) (pm_ml 158) (pm_rt 158)) := by decide +kernel
theorem pc_159 : lw_tbl[1483]? = some (.code (pm_y 159) (pm_cd 159) (pm_ml 159) (pm_rt 159)) := by decide +kernel
theorem pc_160 : lw_tbl[1498]? = some (.code (pm_y 160) (pm_cd 160) (pm_ml 160) (pm_rt 160)) := by decide +kernel
theorem pc_161 : lw_tbl[1518]? = some (.code (pm_y 161) (pm_cd 161) (pm_ml 161) (pm_rt 161)) := by decide +kernel
theorem pc_162 : lw_tbl[1522]? = some (.code (pm_y 162) (pm_cd 162) (pm_ml 162) (pm_rt 162)) := by decide +kernel
theorem pc_163 : lw_tbl[1543]? = some (.code (pm_y 163) (pm_cd 163) (pm_ml 163) (pm_rt 163)) := by decide +kernel
theorem pc_164 : lw_tbl[774]? = some (.code (pm_y 164) (pm_cd 164) (pm_ml 164) (pm_rt 164)) := by decide +kernel
theorem pc_165 : lw_tbl[778]? = some (.code (pm_y 165) (pm_cd 165) (pm_ml 165) (pm_rt 165)) := by decide +kernel
theorem pc_166 : lw_tbl[790]? = some (.code (pm_y 166) (pm_cd 166) (pm_ml 166) (pm_rt 166)) := by decide +kernel
theorem pc_167 : lw_tbl[1061]? = some (.code (pm_y 167) (pm_cd 167) (pm_ml 167) (pm_rt 167)) := by decide +kernel
theorem pc_168 : lw_tbl[1342]? = some (.code (pm_y 168) (pm_cd 168) (pm_ml 168) (pm_rt 168)) := by decide +kernel
theorem pc_169 : lw_tbl[1101]? = some (.code (pm_y 169) (pm_cd 169) (pm_ml 169) (pm_rt 169)) := by decide +kernel
theorem pc_170 : lw_tbl[1108]? = some (.code (pm_y 170) (pm_cd 170) (pm_ml 170) (pm_rt 170)) := by decide +kernel
theorem pc_171 : lw_tbl[1263]? = some (.code (pm_y 171) (pm_cd 171) (pm_ml 171) (pm_rt 171)) := by decide +kernel
theorem pc_172 : lw_tbl[1136]? = some (.code (pm_y 172) (pm_cd 172) (pm_ml 172) (pm_rt 172)) := by decide +kernel
theorem pc_173 : lw_tbl[1441]? = some (.code (pm_y 173) (pm_cd 173) (pm_ml 173) (pm_rt 173)) := by decide +kernel
theorem pc_174 : lw_tbl[1338]? = some (.code (pm_y 174) (pm_cd 174) (pm_ml 174) (pm_rt 174)) := by decide +kernel
theorem pc_175 : lw_tbl[1356]? = some (.code (pm_y 175) (pm_cd 175) (pm_ml 175) (pm_rt 175)) := by decide +kernel
theorem pc_176 : lw_tbl[1360]? = some (.code (pm_y 176) (pm_cd 176) (pm_ml 176) (pm_rt 176)) := by decide +kernel
theorem pc_177 : lw_tbl[1175]? = some (.code (pm_y 177) (pm_cd 177) (pm_ml 177) (pm_rt 177)) := by decide +kernel
theorem pc_178 : lw_tbl[1548]? = some (.code (pm_y 178) (pm_cd 178) (pm_ml 178) (pm_rt 178)) := by decide +kernel
theorem pc_179 : lw_tbl[1838]? = some (.code (pm_y 179) (pm_cd 179) (pm_ml 179) (pm_rt 179)) := by decide +kernel
theorem pc_180 : lw_tbl[1792]? = some (.code (pm_y 180) (pm_cd 180) (pm_ml 180) (pm_rt 180)) := by decide +kernel
theorem pc_181 : lw_tbl[1784]? = some (.code (pm_y 181) (pm_cd 181) (pm_ml 181) (pm_rt 181)) := by decide +kernel
theorem pc_182 : lw_tbl[1796]? = some (.code (pm_y 182) (pm_cd 182) (pm_ml 182) (pm_rt 182)) := by decide +kernel
theorem pc_183 : lw_tbl[1823]? = some (.code (pm_y 183) (pm_cd 183) (pm_ml 183) (pm_rt 183)) := by decide +kernel
theorem pc_184 : lw_tbl[1807]? = some (.code (pm_y 184) (pm_cd 184) (pm_ml 184) (pm_rt 184)) := by decide +kernel
theorem pc_185 : lw_tbl[1810]? = some (.code (pm_y 185) (pm_cd 185) (pm_ml 185) (pm_rt 185)) := by decide +kernel
theorem pc_186 : lw_tbl[1819]? = some (.code (pm_y 186) (pm_cd 186) (pm_ml 186) (pm_rt 186)) := by decide +kernel
theorem pc_187 : lw_tbl[1804]? = some (.code (pm_y 187) (pm_cd 187) (pm_ml 187) (pm_rt 187)) := by decide +kernel
theorem pc_188 : lw_tbl[1846]? = some (.code (pm_y 188) (pm_cd 188) (pm_ml 188) (pm_rt 188)) := by decide +kernel
theorem pc_189 : lw_tbl[1827]? = some (.code (pm_y 189) (pm_cd 189) (pm_ml 189) (pm_rt 189)) := by decide +kernel
theorem pc_190 : lw_tbl[1850]? = some (.code (pm_y 190) (pm_cd 190) (pm_ml 190) (pm_rt 190)) := by decide +kernel
theorem pc_191 : lw_tbl[1871]? = some (.code (pm_y 191) (pm_cd 191) (pm_ml 191) (pm_rt 191)) := by decide +kernel
theorem pc_192 : lw_tbl[1906]? = some (.code (pm_y 192) (pm_cd 192) (pm_ml 192) (pm_rt 192)) := by decide +kernel
theorem pc_193 : lw_tbl[1910]? = some (.code (pm_y 193) (pm_cd 193) (pm_ml 193) (pm_rt 193)) := by decide +kernel
theorem pc_194 : lw_tbl[1902]? = some (.code (pm_y 194) (pm_cd 194) (pm_ml 194) (pm_rt 194)) := by decide +kernel
theorem pc_195 : lw_tbl[1835]? = some (.code (pm_y 195) (pm_cd 195) (pm_ml 195) (pm_rt 195)) := by decide +kernel
theorem pc_196 : lw_tbl[1831]? = some (.code (pm_y 196) (pm_cd 196) (pm_ml 196) (pm_rt 196)) := by decide +kernel
theorem pc_197 : lw_tbl[1961]? = some (.code (pm_y 197) (pm_cd 197) (pm_ml 197) (pm_rt 197)) := by decide +kernel
theorem pc_198 : lw_tbl[1972]? = some (.code (pm_y 198) (pm_cd 198) (pm_ml 198) (pm_rt 198)) := by decide +kernel
theorem pc_199 : lw_tbl[1969]? = some (.code (pm_y 199) (pm_cd 199) (pm_ml 199) (pm_rt 199)) := by decide +kernel
theorem pc_200 : lw_tbl[1953]? = some (.code (pm_y 200) (pm_cd 200) (pm_ml 200) (pm_rt 200)) := by decide +kernel
theorem pc_201 : lw_tbl[1942]? = some (.code (pm_y 201) (pm_cd 201) (pm_ml 201) (pm_rt 201)) := by decide +kernel
theorem pc_202 : lw_tbl[1957]? = some (.code (pm_y 202) (pm_cd 202) (pm_ml 202) (pm_rt 202)) := by decide +kernel
theorem pc_203 : lw_tbl[1949]? = some (.code (pm_y 203) (pm_cd 203) (pm_ml 203) (pm_rt 203)) := by decide +kernel
theorem pc_204 : lw_tbl[1946]? = some (.code (pm_y 204) (pm_cd 204) (pm_ml 204) (pm_rt 204)) := by decide +kernel
theorem pc_205 : lw_tbl[1965]? = some (.code (pm_y 205) (pm_cd 205) (pm_ml 205) (pm_rt 205)) := by decide +kernel
theorem pc_206 : lw_tbl[1938]? = some (.code (pm_y 206) (pm_cd 206) (pm_ml 206) (pm_rt 206)) := by decide +kernel
theorem pc_207 : lw_tbl[1863]? = some (.code (pm_y 207) (pm_cd 207) (pm_ml 207) (pm_rt 207)) := by decide +kernel
theorem pc_208 : lw_tbl[1815]? = some (.code (pm_y 208) (pm_cd 208) (pm_ml 208) (pm_rt 208)) := by decide +kernel
theorem pc_209 : lw_tbl[1867]? = some (.code (pm_y 209) (pm_cd 209) (pm_ml 209) (pm_rt 209)) := by decide +kernel
theorem pc_210 : lw_tbl[1926]? = some (.code (pm_y 210) (pm_cd 210) (pm_ml 210) (pm_rt 210)) := by decide +kernel
theorem pc_211 : lw_tbl[1922]? = some (.code (pm_y 211) (pm_cd 211) (pm_ml 211) (pm_rt 211)) := by decide +kernel
theorem pc_212 : lw_tbl[1859]? = some (.code (pm_y 212) (pm_cd 212) (pm_ml 212) (pm_rt 212)) := by decide +kernel
theorem pc_213 : lw_tbl[1914]? = some (.code (pm_y 213) (pm_cd 213) (pm_ml 213) (pm_rt 213)) := by decide +kernel
theorem pc_214 : lw_tbl[1918]? = some (.code (pm_y 214) (pm_cd 214) (pm_ml 214) (pm_rt 214)) := by decide +kernel
theorem pc_215 : lw_tbl[1930]? = some (.code (pm_y 215) (pm_cd 215) (pm_ml 215) (pm_rt 215)) := by decide +kernel
theorem pc_216 : lw_tbl[1934]? = some (.code (pm_y 216) (pm_cd 216) (pm_ml 216) (pm_rt 216)) := by decide +kernel
theorem pc_217 : lw_tbl[1976]? = some (.code (pm_y 217) (pm_cd 217) (pm_ml 217) (pm_rt 217)) := by decide +kernel
theorem pc_218 : lw_tbl[1980]? = some (.code (pm_y 218) (pm_cd 218) (pm_ml 218) (pm_rt 218)) := by decide +kernel
theorem pc_219 : lw_tbl[1984]? = some (.code (pm_y 219) (pm_cd 219) (pm_ml 219) (pm_rt 219)) := by decide +kernel
theorem pc_220 : lw_tbl[1854]? = some (.code (pm_y 220) (pm_cd 220) (pm_ml 220) (pm_rt 220)) := by decide +kernel
theorem pc_221 : lw_tbl[1842]? = some (.code (pm_y 221) (pm_cd 221) (pm_ml 221) (pm_rt 221)) := by decide +kernel
theorem pc_222 : lw_tbl[1800]? = some (.code (pm_y 222) (pm_cd 222) (pm_ml 222) (pm_rt 222)) := by decide +kernel
theorem pc_223 : lw_tbl[1992]? = some (.code (pm_y 223) (pm_cd 223) (pm_ml 223) (pm_rt 223)) := by decide +kernel
theorem pc_224 : lw_tbl[1788]? = some (.code (pm_y 224) (pm_cd 224) (pm_ml 224) (pm_rt 224)) := by decide +kernel
theorem pc_225 : lw_tbl[1996]? = some (.code (pm_y 225) (pm_cd 225) (pm_ml 225) (pm_rt 225)) := by decide +kernel
theorem pc_226 : lw_tbl[2147]? = some (.code (pm_y 226) (pm_cd 226) (pm_ml 226) (pm_rt 226)) := by decide +kernel
theorem pc_227 : lw_tbl[2134]? = some (.code (pm_y 227) (pm_cd 227) (pm_ml 227) (pm_rt 227)) := by decide +kernel
theorem pc_228 : lw_tbl[2029]? = some (.code (pm_y 228) (pm_cd 228) (pm_ml 228) (pm_rt 228)) := by decide +kernel
theorem pc_229 : lw_tbl[2049]? = some (.code (pm_y 229) (pm_cd 229) (pm_ml 229) (pm_rt 229)) := by decide +kernel
theorem pc_230 : lw_tbl[2053]? = some (.code (pm_y 230) (pm_cd 230) (pm_ml 230) (pm_rt 230)) := by decide +kernel
theorem pc_231 : lw_tbl[2057]? = some (.code (pm_y 231) (pm_cd 231) (pm_ml 231) (pm_rt 231)) := by decide +kernel
theorem pc_232 : lw_tbl[2008]? = some (.code (pm_y 232) (pm_cd 232) (pm_ml 232) (pm_rt 232)) := by decide +kernel
theorem pc_233 : lw_tbl[1988]? = some (.code (pm_y 233) (pm_cd 233) (pm_ml 233) (pm_rt 233)) := by decide +kernel
theorem pc_234 : lw_tbl[2004]? = some (.code (pm_y 234) (pm_cd 234) (pm_ml 234) (pm_rt 234)) := by decide +kernel
theorem pc_235 : lw_tbl[2199]? = some (.code (pm_y 235) (pm_cd 235) (pm_ml 235) (pm_rt 235)) := by decide +kernel
theorem pc_236 : lw_tbl[2000]? = some (.code (pm_y 236) (pm_cd 236) (pm_ml 236) (pm_rt 236)) := by decide +kernel
theorem pc_237 : lw_tbl[2033]? = some (.code (pm_y 237) (pm_cd 237) (pm_ml 237) (pm_rt 237)) := by decide +kernel
theorem pc_238 : lw_tbl[2037]? = some (.code (pm_y 238) (pm_cd 238) (pm_ml 238) (pm_rt 238)) := by decide +kernel
theorem pc_239 : lw_tbl[2061]? = some (.code (pm_y 239) (pm_cd 239) (pm_ml 239) (pm_rt 239)) := by decide +kernel
theorem pc_240 : lw_tbl[2016]? = some (.code (pm_y 240) (pm_cd 240) (pm_ml 240) (pm_rt 240)) := by decide +kernel
theorem pc_241 : lw_tbl[2088]? = some (.code (pm_y 241) (pm_cd 241) (pm_ml 241) (pm_rt 241)) := by decide +kernel
theorem pc_242 : lw_tbl[2084]? = some (.code (pm_y 242) (pm_cd 242) (pm_ml 242) (pm_rt 242)) := by decide +kernel
theorem pc_243 : lw_tbl[2041]? = some (.code (pm_y 243) (pm_cd 243) (pm_ml 243) (pm_rt 243)) := by decide +kernel
theorem pc_244 : lw_tbl[2080]? = some (.code (pm_y 244) (pm_cd 244) (pm_ml 244) (pm_rt 244)) := by decide +kernel
theorem pc_245 : lw_tbl[2094]? = some (.code (pm_y 245) (pm_cd 245) (pm_ml 245) (pm_rt 245)) := by decide +kernel
theorem pc_246 : lw_tbl[2099]? = some (.code (pm_y 246) (pm_cd 246) (pm_ml 246) (pm_rt 246)) := by decide +kernel
theorem pc_247 : lw_tbl[2091]? = some (.code (pm_y 247) (pm_cd 247) (pm_ml 247) (pm_rt 247)) := by decide +kernel
theorem pc_248 : lw_tbl[2076]? = some (.code (pm_y 248) (pm_cd 248) (pm_ml 248) (pm_rt 248)) := by decide +kernel
theorem pc_249 : lw_tbl[2073]? = some (.code (pm_y 249) (pm_cd 249) (pm_ml 249) (pm_rt 249)) := by decide +kernel
theorem pc_250 : lw_tbl[2102]? = some (.code (pm_y 250) (pm_cd 250) (pm_ml 250) (pm_rt 250)) := by decide +kernel
theorem pc_251 : lw_tbl[2069]? = some (.code (pm_y 251) (pm_cd 251) (pm_ml 251) (pm_rt 251)) := by decide +kernel
theorem pc_252 : lw_tbl[2167]? = some (.code (pm_y 252) (pm_cd 252) (pm_ml 252) (pm_rt 252)) := by decide +kernel
theorem pc_253 : lw_tbl[2163]? = some (.code (pm_y 253) (pm_cd 253) (pm_ml 253) (pm_rt 253)) := by decide +kernel
theorem pc_254 : lw_tbl[2183]? = some (.code (pm_y 254) (pm_cd 254) (pm_ml 254) (pm_rt 254)) := by decide +kernel
theorem pc_255 : lw_tbl[2065]? = some (.code (pm_y 255) (pm_cd 255) (pm_ml 255) (pm_rt 255)) := by decide +kernel
theorem pc_256 : lw_tbl[2171]? = some (.code (pm_y 256) (pm_cd 256) (pm_ml 256) (pm_rt 256)) := by decide +kernel
theorem pc_257 : lw_tbl[2159]? = some (.code (pm_y 257) (pm_cd 257) (pm_ml 257) (pm_rt 257)) := by decide +kernel
theorem pc_258 : lw_tbl[2151]? = some (.code (pm_y 258) (pm_cd 258) (pm_ml 258) (pm_rt 258)) := by decide +kernel
theorem pc_259 : lw_tbl[2143]? = some (.code (pm_y 259) (pm_cd 259) (pm_ml 259) (pm_rt 259)) := by decide +kernel
theorem pc_260 : lw_tbl[2155]? = some (.code (pm_y 260) (pm_cd 260) (pm_ml 260) (pm_rt 260)) := by decide +kernel
theorem pc_261 : lw_tbl[2012]? = some (.code (pm_y 261) (pm_cd 261) (pm_ml 261) (pm_rt 261)) := by decide +kernel
theorem pc_262 : lw_tbl[2020]? = some (.code (pm_y 262) (pm_cd 262) (pm_ml 262) (pm_rt 262)) := by decide +kernel
theorem pc_263 : lw_tbl[2025]? = some (.code (pm_y 263) (pm_cd 263) (pm_ml 263) (pm_rt 263)) := by decide +kernel
theorem pc_264 : lw_tbl[2110]? = some (.code (pm_y 264) (pm_cd 264) (pm_ml 264) (pm_rt 264)) := by decide +kernel
theorem pc_265 : lw_tbl[2114]? = some (.code (pm_y 265) (pm_cd 265) (pm_ml 265) (pm_rt 265)) := by decide +kernel
theorem pc_266 : lw_tbl[2118]? = some (.code (pm_y 266) (pm_cd 266) (pm_ml 266) (pm_rt 266)) := by decide +kernel
theorem pc_267 : lw_tbl[2122]? = some (.code (pm_y 267) (pm_cd 267) (pm_ml 267) (pm_rt 267)) := by decide +kernel
theorem pc_268 : lw_tbl[2106]? = some (.code (pm_y 268) (pm_cd 268) (pm_ml 268) (pm_rt 268)) := by decide +kernel
theorem pc_269 : lw_tbl[2045]? = some (.code (pm_y 269) (pm_cd 269) (pm_ml 269) (pm_rt 269)) := by decide +kernel
theorem pc_270 : lw_tbl[2126]? = some (.code (pm_y 270) (pm_cd 270) (pm_ml 270) (pm_rt 270)) := by decide +kernel
theorem pc_271 : lw_tbl[2130]? = some (.code (pm_y 271) (pm_cd 271) (pm_ml 271) (pm_rt 271)) := by decide +kernel
theorem pc_272 : lw_tbl[2139]? = some (.code (pm_y 272) (pm_cd 272) (pm_ml 272) (pm_rt 272)) := by decide +kernel
theorem pc_273 : lw_tbl[2175]? = some (.code (pm_y 273) (pm_cd 273) (pm_ml 273) (pm_rt 273)) := by decide +kernel
theorem pc_274 : lw_tbl[2179]? = some (.code (pm_y 274) (pm_cd 274) (pm_ml 274) (pm_rt 274)) := by decide +kernel
theorem pc_275 : lw_tbl[2191]? = some (.code (pm_y 275) (pm_cd 275) (pm_ml 275) (pm_rt 275)) := by decide +kernel
theorem pc_276 : lw_tbl[2187]? = some (.code (pm_y 276) (pm_cd 276) (pm_ml 276) (pm_rt 276)) := by decide +kernel
theorem pc_277 : lw_tbl[2195]? = some (.code (pm_y 277) (pm_cd 277) (pm_ml 277) (pm_rt 277)) := by decide +kernel
theorem pc_278 : lw_tbl[2203]? = some (.code (pm_y 278) (pm_cd 278) (pm_ml 278) (pm_rt 278)) := by decide +kernel
theorem pc_279 : lw_tbl[2207]? = some (.code (pm_y 279) (pm_cd 279) (pm_ml 279) (pm_rt 279)) := by decide +kernel
theorem pc_280 : lw_tbl[2211]? = some (.code (pm_y 280) (pm_cd 280) (pm_ml 280) (pm_rt 280)) := by decide +kernel
theorem pc_281 : lw_tbl[2219]? = some (.code (pm_y 281) (pm_cd 281) (pm_ml 281) (pm_rt 281)) := by decide +kernel
theorem pc_282 : lw_tbl[2215]? = some (.code (pm_y 282) (pm_cd 282) (pm_ml 282) (pm_rt 282)) := by decide +kernel
theorem pc_283 : lw_tbl[2227]? = some (.code (pm_y 283) (pm_cd 283) (pm_ml 283) (pm_rt 283)) := by decide +kernel
theorem pc_284 : lw_tbl[2239]? = some (.code (pm_y 284) (pm_cd 284) (pm_ml 284) (pm_rt 284)) := by decide +kernel
theorem pc_285 : lw_tbl[2235]? = some (.code (pm_y 285) (pm_cd 285) (pm_ml 285) (pm_rt 285)) := by decide +kernel
theorem pc_286 : lw_tbl[2243]? = some (.code (pm_y 286) (pm_cd 286) (pm_ml 286) (pm_rt 286)) := by decide +kernel
theorem pc_287 : lw_tbl[2231]? = some (.code (pm_y 287) (pm_cd 287) (pm_ml 287) (pm_rt 287)) := by decide +kernel
theorem pc_288 : lw_tbl[2259]? = some (.code (pm_y 288) (pm_cd 288) (pm_ml 288) (pm_rt 288)) := by decide +kernel
theorem pc_289 : lw_tbl[2255]? = some (.code (pm_y 289) (pm_cd 289) (pm_ml 289) (pm_rt 289)) := by decide +kernel
theorem pc_290 : lw_tbl[2251]? = some (.code (pm_y 290) (pm_cd 290) (pm_ml 290) (pm_rt 290)) := by decide +kernel
theorem pc_291 : lw_tbl[2247]? = some (.code (pm_y 291) (pm_cd 291) (pm_ml 291) (pm_rt 291)) := by decide +kernel
theorem pc_292 : lw_tbl[2267]? = some (.code (pm_y 292) (pm_cd 292) (pm_ml 292) (pm_rt 292)) := by decide +kernel
theorem pc_293 : lw_tbl[2271]? = some (.code (pm_y 293) (pm_cd 293) (pm_ml 293) (pm_rt 293)) := by decide +kernel
theorem pc_294 : lw_tbl[2263]? = some (.code (pm_y 294) (pm_cd 294) (pm_ml 294) (pm_rt 294)) := by decide +kernel
theorem pc_295 : lw_tbl[2275]? = some (.code (pm_y 295) (pm_cd 295) (pm_ml 295) (pm_rt 295)) := by decide +kernel
theorem pc_296 : lw_tbl[2279]? = some (.code (pm_y 296) (pm_cd 296) (pm_ml 296) (pm_rt 296)) := by decide +kernel
theorem pc_297 : lw_tbl[2283]? = some (.code (pm_y 297) (pm_cd 297) (pm_ml 297) (pm_rt 297)) := by decide +kernel
theorem pc_298 : lw_tbl[2291]? = some (.code (pm_y 298) (pm_cd 298) (pm_ml 298) (pm_rt 298)) := by decide +kernel
theorem pc_299 : lw_tbl[2287]? = some (.code (pm_y 299) (pm_cd 299) (pm_ml 299) (pm_rt 299)) := by decide +kernel
theorem pc_300 : lw_tbl[2303]? = some (.code (pm_y 300) (pm_cd 300) (pm_ml 300) (pm_rt 300)) := by decide +kernel
theorem pc_301 : lw_tbl[2299]? = some (.code (pm_y 301) (pm_cd 301) (pm_ml 301) (pm_rt 301)) := by decide +kernel
theorem pc_302 : lw_tbl[2295]? = some (.code (pm_y 302) (pm_cd 302) (pm_ml 302) (pm_rt 302)) := by decide +kernel
theorem pc_303 : lw_tbl[2307]? = some (.code (pm_y 303) (pm_cd 303) (pm_ml 303) (pm_rt 303)) := by decide +kernel
theorem pc_304 : lw_tbl[2319]? = some (.code (pm_y 304) (pm_cd 304) (pm_ml 304) (pm_rt 304)) := by decide +kernel
theorem pc_305 : lw_tbl[2315]? = some (.code (pm_y 305) (pm_cd 305) (pm_ml 305) (pm_rt 305)) := by decide +kernel
theorem pc_306 : lw_tbl[2311]? = some (.code (pm_y 306) (pm_cd 306) (pm_ml 306) (pm_rt 306)) := by decide +kernel
theorem pc_307 : lw_tbl[805]? = some (.code (pm_y 307) (pm_cd 307) (pm_ml 307) (pm_rt 307)) := by decide +kernel
theorem pm_code_ok : ∀ m, m < 308 → lw_tbl[(pm_MP.getD m (0, 0, 0, 0)).1]? = some (.code (pm_y m) (pm_cd m) (pm_ml m) (pm_rt m)) := by
  intro m hm
  match m, hm with
  | 0, _ => exact pc_0
  | 1, _ => exact pc_1
  | 2, _ => exact pc_2
  | 3, _ => exact pc_3
  | 4, _ => exact pc_4
  | 5, _ => exact pc_5
  | 6, _ => exact pc_6
  | 7, _ => exact pc_7
  | 8, _ => exact pc_8
  | 9, _ => exact pc_9
  | 10, _ => exact pc_10
  | 11, _ => exact pc_11
  | 12, _ => exact pc_12
  | 13, _ => exact pc_13
  | 14, _ => exact pc_14
  | 15, _ => exact pc_15
  | 16, _ => exact pc_16
  | 17, _ => exact pc_17
  | 18, _ => exact pc_18
  | 19, _ => exact pc_19
  | 20, _ => exact pc_20
  | 21, _ => exact pc_21
  | 22, _ => exact pc_22
  | 23, _ => exact pc_23
  | 24, _ => exact pc_24
  | 25, _ => exact pc_25
  | 26, _ => exact pc_26
  | 27, _ => exact pc_27
  | 28, _ => exact pc_28
  | 29, _ => exact pc_29
  | 30, _ => exact pc_30
  | 31, _ => exact pc_31
  | 32, _ => exact pc_32
  | 33, _ => exact pc_33
  | 34, _ => exact pc_34
  | 35, _ => exact pc_35
  | 36, _ => exact pc_36
  | 37, _ => exact pc_37
  | 38, _ => exact pc_38
  | 39, _ => exact pc_39
  | 40, _ => exact pc_40
  | 41, _ => exact pc_41
  | 42, _ => exact pc_42
  | 43, _ => exact pc_43
  | 44, _ => exact pc_44
  | 45, _ => exact pc_45
  | 46, _ => exact pc_46
  | 47, _ => exact pc_47
  | 48, _ => exact pc_48
  | 49, _ => exact pc_49
  | 50, _ => exact pc_50
  | 51, _ => exact pc_51
  | 52, _ => exact pc_52
  | 53, _ => exact pc_53
  | 54, _ => exact pc_54
  | 55, _ => exact pc_55
  | 56, _ => exact pc_56
  | 57, _ => exact pc_57
  | 58, _ => exact pc_58
  | 59, _ => exact pc_59
  | 60, _ => exact pc_60
  | 61, _ => exact pc_61
  | 62, _ => exact pc_62
  | 63, _ => exact pc_63
  | 64, _ => exact pc_64
  | 65, _ => exact pc_65
  | 66, _ => exact pc_66
  | 67, _ => exact pc_67
  | 68, _ => exact pc_68
  | 69, _ => exact pc_69
  | 70, _ => exact pc_70
  | 71, _ => exact pc_71
  | 72, _ => exact pc_72
  | 73, _ => exact pc_73
  | 74, _ => exact pc_74
  | 75, _ => exact pc_75
  | 76, _ => exact pc_76
  | 77, _ => exact pc_77
  | 78, _ => exact pc_78
  | 79, _ => exact pc_79
  | 80, _ => exact pc_80
  | 81, _ => exact pc_81
  | 82, _ => exact pc_82
  | 83, _ => exact pc_83
  | 84, _ => exact pc_84
  | 85, _ => exact pc_85
  | 86, _ => exact pc_86
  | 87, _ => exact pc_87
  | 88, _ => exact pc_88
  | 89, _ => exact pc_89
  | 90, _ => exact pc_90
  | 91, _ => exact pc_91
  | 92, _ => exact pc_92
  | 93, _ => exact pc_93
  | 94, _ => exact pc_94
  | 95, _ => exact pc_95
  | 96, _ => exact pc_96
  | 97, _ => exact pc_97
  | 98, _ => exact pc_98
  | 99, _ => exact pc_99
  | 100, _ => exact pc_100
  | 101, _ => exact pc_101
  | 102, _ => exact pc_102
  | 103, _ => exact pc_103
  | 104, _ => exact pc_104
  | 105, _ => exact pc_105
  | 106, _ => exact pc_106
  | 107, _ => exact pc_107
  | 108, _ => exact pc_108
  | 109, _ => exact pc_109
  | 110, _ => exact pc_110
  | 111, _ => exact pc_111
  | 112, _ => exact pc_112
  | 113, _ => exact pc_113
  | 114, _ => exact pc_114
  | 115, _ => exact pc_115
  | 116, _ => exact pc_116
  | 117, _ => exact pc_117
  | 118, _ => exact pc_118
  | 119, _ => exact pc_119
  | 120, _ => exact pc_120
  | 121, _ => exact pc_121
  | 122, _ => exact pc_122
  | 123, _ => exact pc_123
  | 124, _ => exact pc_124
  | 125, _ => exact pc_125
  | 126, _ => exact pc_126
  | 127, _ => exact pc_127
  | 128, _ => exact pc_128
  | 129, _ => exact pc_129
  | 130, _ => exact pc_130
  | 131, _ => exact pc_131
  | 132, _ => exact pc_132
  | 133, _ => exact pc_133
  | 134, _ => exact pc_134
  | 135, _ => exact pc_135
  | 136, _ => exact pc_136
  | 137, _ => exact pc_137
  | 138, _ => exact pc_138
  | 139, _ => exact pc_139
  | 140, _ => exact pc_140
  | 141, _ => exact pc_141
  | 142, _ => exact pc_142
  | 143, _ => exact pc_143
  | 144, _ => exact pc_144
  | 145, _ => exact pc_145
  | 146, _ => exact pc_146
  | 147, _ => exact pc_147
  | 148, _ => exact pc_148
  | 149, _ => exact pc_149
  | 150, _ => exact pc_150
  | 151, _ => exact pc_151
  | 152, _ => exact pc_152
  | 153, _ => exact pc_153
  | 154, _ => exact pc_154
  | 155, _ => exact pc_155
  | 156, _ => exact pc_156
  | 157, _ => exact pc_157
  | 158, _ => exact pc_158
  | 159, _ => exact pc_159
  | 160, _ => exact pc_160
  | 161, _ => exact pc_161
  | 162, _ => exact pc_162
  | 163, _ => exact pc_163
  | 164, _ => exact pc_164
  | 165, _ => exact pc_165
  | 166, _ => exact pc_166
  | 167, _ => exact pc_167
  | 168, _ => exact pc_168
  | 169, _ => exact pc_169
  | 170, _ => exact pc_170
  | 171, _ => exact pc_171
  | 172, _ => exact pc_172
  | 173, _ => exact pc_173
  | 174, _ => exact pc_174
  | 175, _ => exact pc_175
  | 176, _ => exact pc_176
  | 177, _ => exact pc_177
  | 178, _ => exact pc_178
  | 179, _ => exact pc_179
  | 180, _ => exact pc_180
  | 181, _ => exact pc_181
  | 182, _ => exact pc_182
  | 183, _ => exact pc_183
  | 184, _ => exact pc_184
  | 185, _ => exact pc_185
  | 186, _ => exact pc_186
  | 187, _ => exact pc_187
  | 188, _ => exact pc_188
  | 189, _ => exact pc_189
  | 190, _ => exact pc_190
  | 191, _ => exact pc_191
  | 192, _ => exact pc_192
  | 193, _ => exact pc_193
  | 194, _ => exact pc_194
  | 195, _ => exact pc_195
  | 196, _ => exact pc_196
  | 197, _ => exact pc_197
  | 198, _ => exact pc_198
  | 199, _ => exact pc_199
  | 200, _ => exact pc_200
  | 201, _ => exact pc_201
  | 202, _ => exact pc_202
  | 203, _ => exact pc_203
  | 204, _ => exact pc_204
  | 205, _ => exact pc_205
  | 206, _ => exact pc_206
  | 207, _ => exact pc_207
  | 208, _ => exact pc_208
  | 209, _ => exact pc_209
  | 210, _ => exact pc_210
  | 211, _ => exact pc_211
  | 212, _ => exact pc_212
  | 213, _ => exact pc_213
  | 214, _ => exact pc_214
  | 215, _ => exact pc_215
  | 216, _ => exact pc_216
  | 217, _ => exact pc_217
  | 218, _ => exact pc_218
  | 219, _ => exact pc_219
  | 220, _ => exact pc_220
  | 221, _ => exact pc_221
  | 222, _ => exact pc_222
  | 223, _ => exact pc_223
  | 224, _ => exact pc_224
  | 225, _ => exact pc_225
  | 226, _ => exact pc_226
  | 227, _ => exact pc_227
  | 228, _ => exact pc_228
  | 229, _ => exact pc_229
  | 230, _ => exact pc_230
  | 231, _ => exact pc_231
  | 232, _ => exact pc_232
  | 233, _ => exact pc_233
  | 234, _ => exact pc_234
  | 235, _ => exact pc_235
  | 236, _ => exact pc_236
  | 237, _ => exact pc_237
  | 238, _ => exact pc_238
  | 239, _ => exact pc_239
  | 240, _ => exact pc_240
  | 241, _ => exact pc_241
  | 242, _ => exact pc_242
  | 243, _ => exact pc_243
  | 244, _ => exact pc_244
  | 245, _ => exact pc_245
  | 246, _ => exact pc_246
  | 247, _ => exact pc_247
  | 248, _ => exact pc_248
  | 249, _ => exact pc_249
  | 250, _ => exact pc_250
  | 251, _ => exact pc_251
  | 252, _ => exact pc_252
  | 253, _ => exact pc_253
  | 254, _ => exact pc_254
  | 255, _ => exact pc_255
  | 256, _ => exact pc_256
  | 257, _ => exact pc_257
  | 258, _ => exact pc_258
  | 259, _ => exact pc_259
  | 260, _ => exact pc_260
  | 261, _ => exact pc_261
  | 262, _ => exact pc_262
  | 263, _ => exact pc_263
  | 264, _ => exact pc_264
  | 265, _ => exact pc_265
  | 266, _ => exact pc_266
  | 267, _ => exact pc_267
  | 268, _ => exact pc_268
  | 269, _ => exact pc_269
  | 270, _ => exact pc_270
  | 271, _ => exact pc_271
  | 272, _ => exact pc_272
  | 273, _ => exact pc_273
  | 274, _ => exact pc_274
  | 275, _ => exact pc_275
  | 276, _ => exact pc_276
  | 277, _ => exact pc_277
  | 278, _ => exact pc_278
  | 279, _ => exact pc_279
  | 280, _ => exact pc_280
  | 281, _ => exact pc_281
  | 282, _ => exact pc_282
  | 283, _ => exact pc_283
  | 284, _ => exact pc_284
  | 285, _ => exact pc_285
  | 286, _ => exact pc_286
  | 287, _ => exact pc_287
  | 288, _ => exact pc_288
  | 289, _ => exact pc_289
  | 290, _ => exact pc_290
  | 291, _ => exact pc_291
  | 292, _ => exact pc_292
  | 293, _ => exact pc_293
  | 294, _ => exact pc_294
  | 295, _ => exact pc_295
  | 296, _ => exact pc_296
  | 297, _ => exact pc_297
  | 298, _ => exact pc_298
  | 299, _ => exact pc_299
  | 300, _ => exact pc_300
  | 301, _ => exact pc_301
  | 302, _ => exact pc_302
  | 303, _ => exact pc_303
  | 304, _ => exact pc_304
  | 305, _ => exact pc_305
  | 306, _ => exact pc_306
  | 307, _ => exact pc_307
  | m + 308, h => omega
