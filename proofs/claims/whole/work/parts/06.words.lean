theorem mg0 {w : Cond} {i : Nat} (h : (k2_sels lw_privs)[i]? = some w) (hg : goodWord w = true) : w ∈ gtb := List.mem_filter.mpr ⟨List.mem_append_left _ (List.mem_of_getElem? h), hg⟩
theorem mg1 {w : Cond} {i : Nat} (h : tables_1_1[i]? = some w) (hg : goodWord w = true) : w ∈ gtb := List.mem_filter.mpr ⟨List.mem_append_right _ (List.mem_append_left _ (List.mem_of_getElem? h)), hg⟩
theorem mg2 {w : Cond} {i : Nat} (h : tables_1_2[i]? = some w) (hg : goodWord w = true) : w ∈ gtb := List.mem_filter.mpr ⟨List.mem_append_right _ (List.mem_append_right _ (List.mem_append_left _ (List.mem_of_getElem? h))), hg⟩
theorem mg3 {w : Cond} {i : Nat} (h : tables_1_3[i]? = some w) (hg : goodWord w = true) : w ∈ gtb := List.mem_filter.mpr ⟨List.mem_append_right _ (List.mem_append_right _ (List.mem_append_right _ (List.mem_append_left _ (List.mem_of_getElem? h)))), hg⟩
theorem mg4 {w : Cond} {i : Nat} (h : tables_1_4[i]? = some w) (hg : goodWord w = true) : w ∈ gtb := List.mem_filter.mpr ⟨List.mem_append_right _ (List.mem_append_right _ (List.mem_append_right _ (List.mem_append_right _ (List.mem_append_left _ (List.mem_of_getElem? h))))), hg⟩
theorem mg5 {w : Cond} {i : Nat} (h : tables_1_5[i]? = some w) (hg : goodWord w = true) : w ∈ gtb := List.mem_filter.mpr ⟨List.mem_append_right _ (List.mem_append_right _ (List.mem_append_right _ (List.mem_append_right _ (List.mem_append_right _ (List.mem_append_left _ (List.mem_of_getElem? h)))))), hg⟩
theorem mg6 {w : Cond} {i : Nat} (h : tables_1_6[i]? = some w) (hg : goodWord w = true) : w ∈ gtb := List.mem_filter.mpr ⟨List.mem_append_right _ (List.mem_append_right _ (List.mem_append_right _ (List.mem_append_right _ (List.mem_append_right _ (List.mem_append_right _ (List.mem_append_left _ (List.mem_of_getElem? h))))))), hg⟩
theorem mg7 {w : Cond} {i : Nat} (h : tables_1_7[i]? = some w) (hg : goodWord w = true) : w ∈ gtb := List.mem_filter.mpr ⟨List.mem_append_right _ (List.mem_append_right _ (List.mem_append_right _ (List.mem_append_right _ (List.mem_append_right _ (List.mem_append_right _ (List.mem_append_right _ ((List.mem_of_getElem? h)))))))), hg⟩
theorem ww_0 : Cond.constant RJ6 265 1431655765 ∈ gtb := mg4 (i := 205) rfl rfl
theorem ww_1 : Cond.constant RJ6 266 858993459 ∈ gtb := mg4 (i := 206) rfl rfl
theorem ww_2 : Cond.constant RJ6 267 252645135 ∈ gtb := mg4 (i := 207) rfl rfl
theorem ww_3 : Cond.code yJ6_bitCount_0f7a4 cJ6_bitCount_0f7a4 1 (some .int) ∈ gtb := mg4 (i := 204) rfl rfl
theorem ww_4 : Cond.initialized RJ6 ∈ gtb := mg1 (i := 22) rfl rfl
theorem ww_5 : Cond.static yJ6_bitCount_0f7a4 ∈ gtb := mg4 (i := 203) rfl rfl
theorem ww_6 : Cond.code yJ7_fill_53178 cJ7_fill_53178 4 none ∈ gtb := mg4 (i := 77) rfl rfl
theorem ww_7 : Cond.initialized RJ7 ∈ gtb := mg1 (i := 21) rfl rfl
theorem ww_8 : Cond.static yJ7_fill_53178 ∈ gtb := mg4 (i := 76) rfl rfl
theorem ww_9 : Cond.code yJ7_rangeCheck_23922 cJ7_rangeCheck_23922 3 none ∈ gtb := mg4 (i := 151) rfl rfl
theorem ww_10 : Cond.static yJ7_rangeCheck_23922 ∈ gtb := mg4 (i := 150) rfl rfl
theorem ww_11 : Cond.methodLink RJ7 13 yJ7_rangeCheck_23922 ∈ gtb := mg4 (i := 149) rfl rfl
theorem ww_12 : Cond.code yJ7_fill_fda19 cJ7_fill_fda19 5 none ∈ gtb := mg4 (i := 148) rfl rfl
theorem ww_13 : Cond.static yJ7_fill_fda19 ∈ gtb := mg4 (i := 147) rfl rfl
theorem ww_14 : Cond.fieldLink RX7 7 "FivePlayers$Row" "size" "I" ∈ gtb := mg1 (i := 49) rfl rfl
theorem ww_15 : Cond.fieldLink RX7 13 "FivePlayers$Row" "at" "[I" ∈ gtb := mg1 (i := 45) rfl rfl
theorem ww_16 : Cond.code yX7_add cX7_add 2 none ∈ gtb := mg3 (i := 78) rfl rfl
theorem ww_17 : Cond.initialized RX7 ∈ gtb := mg1 (i := 3) rfl rfl
theorem ww_18 : Cond.instanceMethod yX7_add ∈ gtb := mg3 (i := 76) rfl rfl
theorem ww_19 : Cond.selects RX7 yX7_add yX7_add ∈ gtb := mg3 (i := 77) rfl rfl
theorem ww_20 : Cond.fieldLink RX10 31 "FivePlayers$Stage" "play" "LFivePlayers$Play;" ∈ gtb := mg1 (i := 144) rfl rfl
theorem ww_21 : Cond.fieldLink RX10 49 "FivePlayers$Play" "role" "[LFivePlayers$Role;" ∈ gtb := mg1 (i := 74) rfl rfl
theorem ww_22 : Cond.fieldLink RX10 86 "FivePlayers$Role" "kind" "I" ∈ gtb := mg2 (i := 86) rfl rfl
theorem ww_23 : Cond.code yX10_isOff cX10_isOff 2 (some .boolean) ∈ gtb := mg3 (i := 239) rfl rfl
theorem ww_24 : Cond.initialized RX10 ∈ gtb := mg1 (i := 4) rfl rfl
theorem ww_25 : Cond.instanceMethod yX10_isOff ∈ gtb := mg3 (i := 238) rfl rfl
theorem ww_26 : Cond.selects RX10 yX10_isOff yX10_isOff ∈ gtb := mg0 (i := 13) rfl rfl
theorem ww_27 : Cond.fieldLink RX10 9 "FivePlayers$Stage" "named" "[I" ∈ gtb := mg1 (i := 145) rfl rfl
theorem ww_28 : Cond.code yX10_name cX10_name 3 none ∈ gtb := mg3 (i := 47) rfl rfl
theorem ww_29 : Cond.instanceMethod yX10_name ∈ gtb := mg3 (i := 46) rfl rfl
theorem ww_30 : Cond.selects RX10 yX10_name yX10_name ∈ gtb := mg0 (i := 4) rfl rfl
theorem ww_31 : Cond.code yX10_joined cX10_joined 3 (some .int) ∈ gtb := mg3 (i := 54) rfl rfl
theorem ww_32 : Cond.static yX10_joined ∈ gtb := mg3 (i := 53) rfl rfl
theorem ww_33 : Cond.fieldLink RX10 41 "FivePlayers$Row" "size" "I" ∈ gtb := mg1 (i := 50) rfl rfl
theorem ww_34 : Cond.fieldLink RX10 100 "FivePlayers$Row" "at" "[I" ∈ gtb := mg1 (i := 47) rfl rfl
theorem ww_35 : Cond.fieldLink RX10 15 "FivePlayers$Stage" "stack" "[I" ∈ gtb := mg1 (i := 146) rfl rfl
theorem ww_36 : Cond.methodLink RX10 105 yX10_joined ∈ gtb := mg3 (i := 52) rfl rfl
theorem ww_37 : Cond.code yX10_worthOf cX10_worthOf 5 (some .int) ∈ gtb := mg3 (i := 51) rfl rfl
theorem ww_38 : Cond.instanceMethod yX10_worthOf ∈ gtb := mg3 (i := 50) rfl rfl
theorem ww_39 : Cond.selects RX10 yX10_worthOf yX10_worthOf ∈ gtb := mg0 (i := 5) rfl rfl
theorem ww_40 : Cond.methodLink RX10 94 Lib.Math.min.name ∈ gtb := mg3 (i := 67) rfl rfl
theorem ww_41 : Cond.methodLink RX10 97 Lib.Math.max.name ∈ gtb := mg3 (i := 70) rfl rfl
theorem ww_42 : Cond.code yX10_held cX10_held 2 (some .int) ∈ gtb := mg3 (i := 66) rfl rfl
theorem ww_43 : Cond.static yX10_held ∈ gtb := mg3 (i := 65) rfl rfl
theorem ww_44 : Cond.fieldLink RX10 35 "FivePlayers$Play" "texts" "[LFivePlayers$Row;" ∈ gtb := mg1 (i := 103) rfl rfl
theorem ww_45 : Cond.fieldLink RX10 78 "FivePlayers$Role" "wig" "I" ∈ gtb := mg2 (i := 98) rfl rfl
theorem ww_46 : Cond.methodLink RX10 70 yX10_name ∈ gtb := mg3 (i := 44) rfl rfl
theorem ww_47 : Cond.methodLink RX10 62 yX10_worthOf ∈ gtb := mg3 (i := 48) rfl rfl
theorem ww_48 : Cond.methodLink RX10 74 yX10_held ∈ gtb := mg3 (i := 64) rfl rfl
theorem ww_49 : Cond.methodLink RX10 81 Lib.Math.abs.name ∈ gtb := mg3 (i := 221) rfl rfl
theorem ww_50 : Cond.code yX10_changeOf cX10_changeOf 7 (some .int) ∈ gtb := mg3 (i := 220) rfl rfl
theorem ww_51 : Cond.instanceMethod yX10_changeOf ∈ gtb := mg3 (i := 218) rfl rfl
theorem ww_52 : Cond.selects RX10 yX10_changeOf yX10_changeOf ∈ gtb := mg3 (i := 219) rfl rfl
theorem ww_53 : Cond.code yX10_earlier cX10_earlier 2 (some .int) ∈ gtb := mg4 (i := 7) rfl rfl
theorem ww_54 : Cond.static yX10_earlier ∈ gtb := mg4 (i := 6) rfl rfl
theorem ww_55 : Cond.fieldLink RX10 46 "FivePlayers$Play" "gift" "[I" ∈ gtb := mg1 (i := 93) rfl rfl
theorem ww_56 : Cond.fieldLink RX10 89 "FivePlayers$Play" "age" "[I" ∈ gtb := mg1 (i := 95) rfl rfl
theorem ww_57 : Cond.fieldLink RX10 53 "FivePlayers$Role" "need" "I" ∈ gtb := mg2 (i := 90) rfl rfl
theorem ww_58 : Cond.fieldLink RX10 92 "FivePlayers$Role" "age" "I" ∈ gtb := mg2 (i := 93) rfl rfl
theorem ww_59 : Cond.code yX10_namePlayerAndPart cX10_namePlayerAndPart 4 none ∈ gtb := mg3 (i := 43) rfl rfl
theorem ww_60 : Cond.instanceMethod yX10_namePlayerAndPart ∈ gtb := mg3 (i := 42) rfl rfl
theorem ww_61 : Cond.selects RX10 yX10_namePlayerAndPart yX10_namePlayerAndPart ∈ gtb := mg0 (i := 3) rfl rfl
theorem ww_62 : Cond.methodLink RX10 58 yX10_namePlayerAndPart ∈ gtb := mg3 (i := 40) rfl rfl
theorem ww_63 : Cond.code yX10_isAble cX10_isAble 4 (some .boolean) ∈ gtb := mg3 (i := 39) rfl rfl
theorem ww_64 : Cond.instanceMethod yX10_isAble ∈ gtb := mg3 (i := 37) rfl rfl
theorem ww_65 : Cond.selects RX10 yX10_isAble yX10_isAble ∈ gtb := mg3 (i := 38) rfl rfl
theorem ww_66 : Cond.fieldLink RX10 129 "FivePlayers$Play" "entries" "I" ∈ gtb := mg1 (i := 69) rfl rfl
theorem ww_67 : Cond.fieldLink RX10 132 "FivePlayers$Play" "whose" "[I" ∈ gtb := mg1 (i := 82) rfl rfl
theorem ww_68 : Cond.fieldLink RX10 135 "FivePlayers$Play" "from" "[I" ∈ gtb := mg1 (i := 85) rfl rfl
theorem ww_69 : Cond.fieldLink RX10 138 "FivePlayers$Play" "to" "[I" ∈ gtb := mg1 (i := 88) rfl rfl
theorem ww_70 : Cond.methodLink RX10 123 yX10_earlier ∈ gtb := mg4 (i := 5) rfl rfl
theorem ww_71 : Cond.code yX10_meetingLine cX10_meetingLine 7 (some .int) ∈ gtb := mg4 (i := 4) rfl rfl
theorem ww_72 : Cond.instanceMethod yX10_meetingLine ∈ gtb := mg4 (i := 3) rfl rfl
theorem ww_73 : Cond.selects RX10 yX10_meetingLine yX10_meetingLine ∈ gtb := mg0 (i := 14) rfl rfl
theorem ww_74 : Cond.code yX10_shareOf cX10_shareOf 3 (some .int) ∈ gtb := mg4 (i := 16) rfl rfl
theorem ww_75 : Cond.instanceMethod yX10_shareOf ∈ gtb := mg4 (i := 15) rfl rfl
theorem ww_76 : Cond.selects RX10 yX10_shareOf yX10_shareOf ∈ gtb := mg0 (i := 16) rfl rfl
theorem ww_77 : Cond.fieldLink RX10 150 "FivePlayers$Play" "sides" "[I" ∈ gtb := mg1 (i := 91) rfl rfl
theorem ww_78 : Cond.code yX10_isSameSide cX10_isSameSide 3 (some .boolean) ∈ gtb := mg4 (i := 20) rfl rfl
theorem ww_79 : Cond.instanceMethod yX10_isSameSide ∈ gtb := mg4 (i := 19) rfl rfl
theorem ww_80 : Cond.selects RX10 yX10_isSameSide yX10_isSameSide ∈ gtb := mg0 (i := 17) rfl rfl
theorem ww_81 : Cond.methodLink RX10 141 yX10_changeOf ∈ gtb := mg4 (i := 12) rfl rfl
theorem ww_82 : Cond.methodLink RX10 144 yX10_shareOf ∈ gtb := mg4 (i := 13) rfl rfl
theorem ww_83 : Cond.methodLink RX10 147 yX10_isSameSide ∈ gtb := mg4 (i := 17) rfl rfl
theorem ww_84 : Cond.code yX10_nearLine cX10_nearLine 10 (some .int) ∈ gtb := mg4 (i := 11) rfl rfl
theorem ww_85 : Cond.instanceMethod yX10_nearLine ∈ gtb := mg4 (i := 10) rfl rfl
theorem ww_86 : Cond.selects RX10 yX10_nearLine yX10_nearLine ∈ gtb := mg0 (i := 15) rfl rfl
theorem ww_87 : Cond.fieldLink RX4 18 "FivePlayers$Play" "entries" "I" ∈ gtb := mg1 (i := 67) rfl rfl
theorem ww_88 : Cond.fieldLink RX4 34 "FivePlayers$Play" "whose" "[I" ∈ gtb := mg1 (i := 80) rfl rfl
theorem ww_89 : Cond.fieldLink RX4 40 "FivePlayers$Play" "to" "[I" ∈ gtb := mg1 (i := 86) rfl rfl
theorem ww_90 : Cond.fieldLink RX4 37 "FivePlayers$Play" "from" "[I" ∈ gtb := mg1 (i := 83) rfl rfl
theorem ww_91 : Cond.code yX4_weight cX4_weight 4 (some .int) ∈ gtb := mg2 (i := 199) rfl rfl
theorem ww_92 : Cond.initialized RX4 ∈ gtb := mg1 (i := 2) rfl rfl
theorem ww_93 : Cond.instanceMethod yX4_weight ∈ gtb := mg2 (i := 197) rfl rfl
theorem ww_94 : Cond.selects RX4 yX4_weight yX4_weight ∈ gtb := mg2 (i := 198) rfl rfl
theorem ww_95 : Cond.methodLink RX10 66 yX4_weight ∈ gtb := mg3 (i := 63) rfl rfl
theorem ww_96 : Cond.code yX10_wishOf cX10_wishOf 4 (some .int) ∈ gtb := mg3 (i := 62) rfl rfl
theorem ww_97 : Cond.instanceMethod yX10_wishOf ∈ gtb := mg3 (i := 60) rfl rfl
theorem ww_98 : Cond.selects RX10 yX10_wishOf yX10_wishOf ∈ gtb := mg3 (i := 61) rfl rfl
theorem ww_99 : Cond.code yX11_isWithin cX11_isWithin 2 (some .boolean) ∈ gtb := mg2 (i := 70) rfl rfl
theorem ww_100 : Cond.initialized RX11 ∈ gtb := mg1 (i := 1) rfl rfl
theorem ww_101 : Cond.static yX11_isWithin ∈ gtb := mg2 (i := 69) rfl rfl
theorem ww_102 : Cond.fieldLink RX4 15 "FivePlayers$Play" "parts" "I" ∈ gtb := mg1 (i := 63) rfl rfl
theorem ww_103 : Cond.code yX4_hasPart cX4_hasPart 2 (some .boolean) ∈ gtb := mg2 (i := 179) rfl rfl
theorem ww_104 : Cond.instanceMethod yX4_hasPart ∈ gtb := mg2 (i := 177) rfl rfl
theorem ww_105 : Cond.selects RX4 yX4_hasPart yX4_hasPart ∈ gtb := mg2 (i := 178) rfl rfl
theorem ww_106 : Cond.fieldLink RX11 61 "FivePlayers" "errors" "[I" ∈ gtb := mg2 (i := 25) rfl rfl
theorem ww_107 : Cond.constant RX11 348 (-1000000) ∈ gtb := mg2 (i := 56) rfl rfl
theorem ww_108 : Cond.code yX11_error cX11_error 2 (some .int) ∈ gtb := mg2 (i := 55) rfl rfl
theorem ww_109 : Cond.instanceMethod yX11_error ∈ gtb := mg2 (i := 54) rfl rfl
theorem ww_110 : Cond.selects RX11 yX11_error yX11_error ∈ gtb := mg0 (i := 0) rfl rfl
theorem ww_111 : Cond.fieldLink RX4 21 "FivePlayers$Play" "players" "I" ∈ gtb := mg1 (i := 70) rfl rfl
theorem ww_112 : Cond.code yX4_isSet cX4_isSet 2 (some .boolean) ∈ gtb := mg4 (i := 111) rfl rfl
theorem ww_113 : Cond.instanceMethod yX4_isSet ∈ gtb := mg4 (i := 109) rfl rfl
theorem ww_114 : Cond.selects RX4 yX4_isSet yX4_isSet ∈ gtb := mg4 (i := 110) rfl rfl
theorem ww_115 : Cond.code yX4_allParts cX4_allParts 1 (some .int) ∈ gtb := mg4 (i := 119) rfl rfl
theorem ww_116 : Cond.instanceMethod yX4_allParts ∈ gtb := mg4 (i := 117) rfl rfl
theorem ww_117 : Cond.selects RX4 yX4_allParts yX4_allParts ∈ gtb := mg4 (i := 118) rfl rfl
theorem ww_118 : Cond.fieldLink RX4 52 "FivePlayers$Play" "known" "[I" ∈ gtb := mg1 (i := 96) rfl rfl
theorem ww_119 : Cond.code yX4_knows cX4_knows 3 (some .boolean) ∈ gtb := mg3 (i := 31) rfl rfl
theorem ww_120 : Cond.instanceMethod yX4_knows ∈ gtb := mg3 (i := 29) rfl rfl
theorem ww_121 : Cond.selects RX4 yX4_knows yX4_knows ∈ gtb := mg3 (i := 30) rfl rfl
theorem ww_122 : Cond.fieldLink RX8 55 "FivePlayers$Solver" "stage" "LFivePlayers$Stage;" ∈ gtb := mg1 (i := 179) rfl rfl
theorem ww_123 : Cond.methodLink RX8 98 yX10_wishOf ∈ gtb := mg4 (i := 133) rfl rfl
theorem ww_124 : Cond.fieldLink RX8 51 "FivePlayers$Solver" "play" "LFivePlayers$Play;" ∈ gtb := mg1 (i := 178) rfl rfl
theorem ww_125 : Cond.methodLink RX8 102 yX4_knows ∈ gtb := mg4 (i := 134) rfl rfl
theorem ww_126 : Cond.methodLink RX8 105 yX4_weight ∈ gtb := mg4 (i := 135) rfl rfl
theorem ww_127 : Cond.fieldLink RX8 109 "FivePlayers$Play" "told" "[I" ∈ gtb := mg1 (i := 77) rfl rfl
theorem ww_128 : Cond.code yX8_costOf cX8_costOf 4 (some .int) ∈ gtb := mg4 (i := 132) rfl rfl
theorem ww_129 : Cond.initialized RX8 ∈ gtb := mg1 (i := 5) rfl rfl
theorem ww_130 : Cond.instanceMethod yX8_costOf ∈ gtb := mg4 (i := 131) rfl rfl
theorem ww_131 : Cond.selects RX8 yX8_costOf yX8_costOf ∈ gtb := mg0 (i := 23) rfl rfl
theorem ww_132 : Cond.fieldLink RX8 64 "FivePlayers$Play" "parts" "I" ∈ gtb := mg1 (i := 64) rfl rfl
theorem ww_133 : Cond.fieldLink RX8 27 "FivePlayers$Solver" "single" "[[I" ∈ gtb := mg1 (i := 185) rfl rfl
theorem ww_134 : Cond.methodLink RX8 89 yX10_isAble ∈ gtb := mg4 (i := 128) rfl rfl
theorem ww_135 : Cond.constant RX8 97 100000000 ∈ gtb := mg4 (i := 136) rfl rfl
theorem ww_136 : Cond.methodLink RX8 93 yX8_costOf ∈ gtb := mg4 (i := 129) rfl rfl
theorem ww_137 : Cond.code yX8_ask cX8_ask 4 none ∈ gtb := mg4 (i := 127) rfl rfl
theorem ww_138 : Cond.instanceMethod yX8_ask ∈ gtb := mg4 (i := 126) rfl rfl
theorem ww_139 : Cond.selects RX8 yX8_ask yX8_ask ∈ gtb := mg0 (i := 22) rfl rfl
theorem ww_140 : Cond.fieldLink RX8 21 "FivePlayers$Solver" "teamSize" "I" ∈ gtb := mg1 (i := 184) rfl rfl
theorem ww_141 : Cond.fieldLink RX8 82 "FivePlayers$Play" "players" "I" ∈ gtb := mg1 (i := 71) rfl rfl
theorem ww_142 : Cond.fieldLink RX8 18 "FivePlayers$Solver" "team" "[I" ∈ gtb := mg1 (i := 183) rfl rfl
theorem ww_143 : Cond.methodLink RX8 85 yX8_ask ∈ gtb := mg4 (i := 124) rfl rfl
theorem ww_144 : Cond.code yX8_gather cX8_gather 4 none ∈ gtb := mg4 (i := 123) rfl rfl
theorem ww_145 : Cond.instanceMethod yX8_gather ∈ gtb := mg4 (i := 122) rfl rfl
theorem ww_146 : Cond.selects RX8 yX8_gather yX8_gather ∈ gtb := mg0 (i := 21) rfl rfl
theorem ww_147 : Cond.fieldLink RX8 30 "FivePlayers$Solver" "cost" "[I" ∈ gtb := mg1 (i := 186) rfl rfl
theorem ww_148 : Cond.fieldLink RX8 79 "FivePlayers$Stage" "barred" "[I" ∈ gtb := mg1 (i := 148) rfl rfl
theorem ww_149 : Cond.code yX8_price cX8_price 8 none ∈ gtb := mg4 (i := 140) rfl rfl
theorem ww_150 : Cond.instanceMethod yX8_price ∈ gtb := mg4 (i := 139) rfl rfl
theorem ww_151 : Cond.selects RX8 yX8_price yX8_price ∈ gtb := mg0 (i := 24) rfl rfl
theorem ww_152 : Cond.methodLink RX8 147 Lib.Math.max.name ∈ gtb := mg4 (i := 155) rfl rfl
theorem ww_153 : Cond.code yX8_together cX8_together 3 (some .int) ∈ gtb := mg4 (i := 154) rfl rfl
theorem ww_154 : Cond.static yX8_together ∈ gtb := mg4 (i := 153) rfl rfl
theorem ww_155 : Cond.fieldLink RX8 33 "FivePlayers$Solver" "least" "[[I" ∈ gtb := mg1 (i := 187) rfl rfl
theorem ww_156 : Cond.methodLink RX8 136 yJ7_fill_fda19 ∈ gtb := mg4 (i := 146) rfl rfl
theorem ww_157 : Cond.methodLink RX8 139 yX8_together ∈ gtb := mg4 (i := 152) rfl rfl
theorem ww_158 : Cond.methodLink RX8 142 Lib.Math.min.name ∈ gtb := mg4 (i := 156) rfl rfl
theorem ww_159 : Cond.code yX8_addToTeam cX8_addToTeam 11 none ∈ gtb := mg4 (i := 145) rfl rfl
theorem ww_160 : Cond.instanceMethod yX8_addToTeam ∈ gtb := mg4 (i := 144) rfl rfl
theorem ww_161 : Cond.selects RX8 yX8_addToTeam yX8_addToTeam ∈ gtb := mg0 (i := 25) rfl rfl
theorem ww_162 : Cond.code yX8_leastShare cX8_leastShare 7 (some .int) ∈ gtb := mg4 (i := 164) rfl rfl
theorem ww_163 : Cond.instanceMethod yX8_leastShare ∈ gtb := mg4 (i := 163) rfl rfl
theorem ww_164 : Cond.selects RX8 yX8_leastShare yX8_leastShare ∈ gtb := mg0 (i := 27) rfl rfl
theorem ww_165 : Cond.fieldLink RX8 39 "FivePlayers$Solver" "playerOf" "[I" ∈ gtb := mg1 (i := 190) rfl rfl
theorem ww_166 : Cond.code yX8_give cX8_give 4 none ∈ gtb := mg4 (i := 168) rfl rfl
theorem ww_167 : Cond.instanceMethod yX8_give ∈ gtb := mg4 (i := 167) rfl rfl
theorem ww_168 : Cond.selects RX8 yX8_give yX8_give ∈ gtb := mg0 (i := 28) rfl rfl
theorem ww_169 : Cond.methodLink RX8 119 yX8_price ∈ gtb := mg4 (i := 137) rfl rfl
theorem ww_170 : Cond.methodLink RX8 150 yX8_leastShare ∈ gtb := mg4 (i := 161) rfl rfl
theorem ww_171 : Cond.methodLink RX8 154 yX8_give ∈ gtb := mg4 (i := 165) rfl rfl
theorem ww_172 : Cond.code yX8_dealOut cX8_dealOut 7 none ∈ gtb := mg4 (i := 160) rfl rfl
theorem ww_173 : Cond.instanceMethod yX8_dealOut ∈ gtb := mg4 (i := 159) rfl rfl
theorem ww_174 : Cond.selects RX8 yX8_dealOut yX8_dealOut ∈ gtb := mg0 (i := 26) rfl rfl
theorem ww_175 : Cond.fieldLink RX11 57 "FivePlayers" "sheetBits" "[I" ∈ gtb := mg2 (i := 24) rfl rfl
theorem ww_176 : Cond.code yX11_isMissing cX11_isMissing 2 (some .boolean) ∈ gtb := mg4 (i := 37) rfl rfl
theorem ww_177 : Cond.instanceMethod yX11_isMissing ∈ gtb := mg4 (i := 36) rfl rfl
theorem ww_178 : Cond.selects RX11 yX11_isMissing yX11_isMissing ∈ gtb := mg0 (i := 18) rfl rfl
theorem ww_179 : Cond.code yX4_hasPlayer cX4_hasPlayer 2 (some .boolean) ∈ gtb := mg3 (i := 27) rfl rfl
theorem ww_180 : Cond.instanceMethod yX4_hasPlayer ∈ gtb := mg3 (i := 25) rfl rfl
theorem ww_181 : Cond.selects RX4 yX4_hasPlayer yX4_hasPlayer ∈ gtb := mg3 (i := 26) rfl rfl
theorem ww_182 : Cond.methodLink RX4 85 yX4_hasPlayer ∈ gtb := mg4 (i := 29) rfl rfl
theorem ww_183 : Cond.code yX4_isPlayerOrNobody cX4_isPlayerOrNobody 2 (some .boolean) ∈ gtb := mg4 (i := 28) rfl rfl
theorem ww_184 : Cond.instanceMethod yX4_isPlayerOrNobody ∈ gtb := mg4 (i := 26) rfl rfl
theorem ww_185 : Cond.selects RX4 yX4_isPlayerOrNobody yX4_isPlayerOrNobody ∈ gtb := mg4 (i := 27) rfl rfl
theorem ww_186 : Cond.methodLink RX11 79 yX11_isWithin ∈ gtb := mg2 (i := 68) rfl rfl
theorem ww_187 : Cond.methodLink RX11 231 yX11_isMissing ∈ gtb := mg4 (i := 34) rfl rfl
theorem ww_188 : Cond.fieldLink RX11 53 "FivePlayers" "sheets" "[LFivePlayers$Row;" ∈ gtb := mg2 (i := 23) rfl rfl
theorem ww_189 : Cond.fieldLink RX11 189 "FivePlayers$Row" "size" "I" ∈ gtb := mg1 (i := 52) rfl rfl
theorem ww_190 : Cond.fieldLink RX11 12 "FivePlayers" "play" "LFivePlayers$Play;" ∈ gtb := mg2 (i := 17) rfl rfl
theorem ww_191 : Cond.fieldLink RX11 83 "FivePlayers$Play" "parts" "I" ∈ gtb := mg1 (i := 65) rfl rfl
theorem ww_192 : Cond.methodLink RX11 234 Lib.Math.min.name ∈ gtb := mg4 (i := 38) rfl rfl
theorem ww_193 : Cond.methodLink RX11 68 yX11_error ∈ gtb := mg2 (i := 52) rfl rfl
theorem ww_194 : Cond.fieldLink RX11 239 "FivePlayers$Row" "at" "[I" ∈ gtb := mg1 (i := 48) rfl rfl
theorem ww_195 : Cond.methodLink RX11 225 yX4_isPlayerOrNobody ∈ gtb := mg4 (i := 25) rfl rfl
theorem ww_196 : Cond.fieldLink RX11 228 "FivePlayers$Play" "told" "[I" ∈ gtb := mg1 (i := 78) rfl rfl
theorem ww_197 : Cond.methodLink RX11 242 arraycopyName ∈ gtb := mg4 (i := 39) rfl rfl
theorem ww_198 : Cond.code yX11_block cX11_block 5 (some .int) ∈ gtb := mg4 (i := 33) rfl rfl
theorem ww_199 : Cond.instanceMethod yX11_block ∈ gtb := mg4 (i := 31) rfl rfl
theorem ww_200 : Cond.selects RX11 yX11_block yX11_block ∈ gtb := mg4 (i := 32) rfl rfl
theorem ww_201 : Cond.code yX4_covers cX4_covers 3 (some .boolean) ∈ gtb := mg3 (i := 11) rfl rfl
theorem ww_202 : Cond.instanceMethod yX4_covers ∈ gtb := mg3 (i := 9) rfl rfl
theorem ww_203 : Cond.selects RX4 yX4_covers yX4_covers ∈ gtb := mg3 (i := 10) rfl rfl
theorem ww_204 : Cond.fieldLink RX4 30 "FivePlayers$Play" "told" "[I" ∈ gtb := mg1 (i := 76) rfl rfl
theorem ww_205 : Cond.methodLink RX4 99 yX4_covers ∈ gtb := mg4 (i := 62) rfl rfl
theorem ww_206 : Cond.code yX4_isOnStage cX4_isOnStage 4 (some .boolean) ∈ gtb := mg4 (i := 61) rfl rfl
theorem ww_207 : Cond.instanceMethod yX4_isOnStage ∈ gtb := mg4 (i := 59) rfl rfl
theorem ww_208 : Cond.selects RX4 yX4_isOnStage yX4_isOnStage ∈ gtb := mg4 (i := 60) rfl rfl
theorem ww_209 : Cond.methodLink RX11 171 yX4_hasPlayer ∈ gtb := mg3 (i := 24) rfl rfl
theorem ww_210 : Cond.fieldLink RX11 76 "FivePlayers$Play" "lines" "I" ∈ gtb := mg1 (i := 62) rfl rfl
theorem ww_211 : Cond.methodLink RX11 257 yX4_isOnStage ∈ gtb := mg4 (i := 58) rfl rfl
theorem ww_212 : Cond.code yX11_busy cX11_busy 4 (some .int) ∈ gtb := mg4 (i := 57) rfl rfl
theorem ww_213 : Cond.instanceMethod yX11_busy ∈ gtb := mg4 (i := 55) rfl rfl
theorem ww_214 : Cond.selects RX11 yX11_busy yX11_busy ∈ gtb := mg4 (i := 56) rfl rfl
theorem ww_215 : Cond.methodLink RX11 94 yX4_hasPart ∈ gtb := mg2 (i := 176) rfl rfl
theorem ww_216 : Cond.fieldLink RX11 21 "FivePlayers" "stage" "LFivePlayers$Stage;" ∈ gtb := mg2 (i := 18) rfl rfl
theorem ww_217 : Cond.methodLink RX11 180 yX10_isAble ∈ gtb := mg3 (i := 36) rfl rfl
theorem ww_218 : Cond.code yX11_can cX11_can 3 (some .int) ∈ gtb := mg3 (i := 35) rfl rfl
theorem ww_219 : Cond.instanceMethod yX11_can ∈ gtb := mg3 (i := 33) rfl rfl
theorem ww_220 : Cond.selects RX11 yX11_can yX11_can ∈ gtb := mg3 (i := 34) rfl rfl
theorem ww_221 : Cond.code yX11_cast cX11_cast 4 (some .int) ∈ gtb := mg4 (i := 24) rfl rfl
theorem ww_222 : Cond.instanceMethod yX11_cast ∈ gtb := mg4 (i := 22) rfl rfl
theorem ww_223 : Cond.selects RX11 yX11_cast yX11_cast ∈ gtb := mg4 (i := 23) rfl rfl
theorem ww_224 : Cond.fieldLink RX8 36 "FivePlayers$Solver" "castingsOf" "[I" ∈ gtb := mg1 (i := 188) rfl rfl
theorem ww_225 : Cond.code yX8_countWithOneMore cX8_countWithOneMore 6 none ∈ gtb := mg4 (i := 184) rfl rfl
theorem ww_226 : Cond.instanceMethod yX8_countWithOneMore ∈ gtb := mg4 (i := 183) rfl rfl
theorem ww_227 : Cond.selects RX8 yX8_countWithOneMore yX8_countWithOneMore ∈ gtb := mg0 (i := 29) rfl rfl
theorem ww_228 : Cond.code yX11_isPair cX11_isPair 3 (some .boolean) ∈ gtb := mg3 (i := 216) rfl rfl
theorem ww_229 : Cond.instanceMethod yX11_isPair ∈ gtb := mg3 (i := 215) rfl rfl
theorem ww_230 : Cond.selects RX11 yX11_isPair yX11_isPair ∈ gtb := mg0 (i := 11) rfl rfl
theorem ww_231 : Cond.methodLink RX11 212 yX11_isPair ∈ gtb := mg3 (i := 213) rfl rfl
theorem ww_232 : Cond.methodLink RX11 215 yX10_changeOf ∈ gtb := mg3 (i := 217) rfl rfl
theorem ww_233 : Cond.code yX11_change cX11_change 4 (some .int) ∈ gtb := mg3 (i := 212) rfl rfl
theorem ww_234 : Cond.instanceMethod yX11_change ∈ gtb := mg3 (i := 210) rfl rfl
theorem ww_235 : Cond.selects RX11 yX11_change yX11_change ∈ gtb := mg3 (i := 211) rfl rfl
theorem ww_236 : Cond.code yX4_allPlayers cX4_allPlayers 1 (some .int) ∈ gtb := mg5 (i := 112) rfl rfl
theorem ww_237 : Cond.instanceMethod yX4_allPlayers ∈ gtb := mg5 (i := 110) rfl rfl
theorem ww_238 : Cond.selects RX4 yX4_allPlayers yX4_allPlayers ∈ gtb := mg5 (i := 111) rfl rfl
theorem ww_239 : Cond.fieldLink RX4 67 "FivePlayers$Play" "texts" "[LFivePlayers$Row;" ∈ gtb := mg1 (i := 102) rfl rfl
theorem ww_240 : Cond.fieldLink RX4 105 "FivePlayers$Row" "size" "I" ∈ gtb := mg1 (i := 53) rfl rfl
theorem ww_241 : Cond.code yX4_usesWithText cX4_usesWithText 3 (some .int) ∈ gtb := mg5 (i := 120) rfl rfl
theorem ww_242 : Cond.instanceMethod yX4_usesWithText ∈ gtb := mg5 (i := 118) rfl rfl
theorem ww_243 : Cond.selects RX4 yX4_usesWithText yX4_usesWithText ∈ gtb := mg5 (i := 119) rfl rfl
theorem ww_244 : Cond.code yX4_partsGiven cX4_partsGiven 3 (some .int) ∈ gtb := mg5 (i := 124) rfl rfl
theorem ww_245 : Cond.instanceMethod yX4_partsGiven ∈ gtb := mg5 (i := 122) rfl rfl
theorem ww_246 : Cond.selects RX4 yX4_partsGiven yX4_partsGiven ∈ gtb := mg5 (i := 123) rfl rfl
theorem ww_247 : Cond.fieldLink RX11 132 "FivePlayers$Play" "entries" "I" ∈ gtb := mg1 (i := 68) rfl rfl
theorem ww_248 : Cond.fieldLink RX11 165 "FivePlayers$Play" "players" "I" ∈ gtb := mg1 (i := 72) rfl rfl
theorem ww_249 : Cond.fieldLink RX11 186 "FivePlayers$Play" "tape" "LFivePlayers$Row;" ∈ gtb := mg1 (i := 99) rfl rfl
theorem ww_250 : Cond.fieldLink RX11 336 "FivePlayers$Play" "waiting" "LFivePlayers$Row;" ∈ gtb := mg1 (i := 101) rfl rfl
theorem ww_251 : Cond.fieldLink RX11 49 "FivePlayers" "traced" "LFivePlayers$Row;" ∈ gtb := mg2 (i := 22) rfl rfl
theorem ww_252 : Cond.methodLink RX11 342 yX4_usesWithText ∈ gtb := mg5 (i := 117) rfl rfl
theorem ww_253 : Cond.methodLink RX11 345 yX4_partsGiven ∈ gtb := mg5 (i := 121) rfl rfl
theorem ww_254 : Cond.code yX11_count cX11_count 2 (some .int) ∈ gtb := mg5 (i := 116) rfl rfl
theorem ww_255 : Cond.instanceMethod yX11_count ∈ gtb := mg5 (i := 114) rfl rfl
theorem ww_256 : Cond.selects RX11 yX11_count yX11_count ∈ gtb := mg5 (i := 115) rfl rfl
theorem ww_257 : Cond.fieldLink RX4 26 "FivePlayers$Play" "role" "[LFivePlayers$Role;" ∈ gtb := mg1 (i := 73) rfl rfl
theorem ww_258 : Cond.fieldLink RX4 102 "FivePlayers$Role" "kind" "I" ∈ gtb := mg2 (i := 88) rfl rfl
theorem ww_259 : Cond.code yX4_seenOn cX4_seenOn 4 (some .int) ∈ gtb := mg4 (i := 94) rfl rfl
theorem ww_260 : Cond.instanceMethod yX4_seenOn ∈ gtb := mg4 (i := 92) rfl rfl
theorem ww_261 : Cond.selects RX4 yX4_seenOn yX4_seenOn ∈ gtb := mg4 (i := 93) rfl rfl
theorem ww_262 : Cond.methodLink RX11 266 yX4_seenOn ∈ gtb := mg4 (i := 91) rfl rfl
theorem ww_263 : Cond.methodLink RX11 269 Lib.Math.max.name ∈ gtb := mg4 (i := 95) rfl rfl
theorem ww_264 : Cond.code yX11_crowd cX11_crowd 3 (some .int) ∈ gtb := mg4 (i := 90) rfl rfl
theorem ww_265 : Cond.instanceMethod yX11_crowd ∈ gtb := mg4 (i := 88) rfl rfl
theorem ww_266 : Cond.selects RX11 yX11_crowd yX11_crowd ∈ gtb := mg4 (i := 89) rfl rfl
theorem ww_267 : Cond.fieldLink RX4 9 "FivePlayers$Play" "lines" "I" ∈ gtb := mg1 (i := 61) rfl rfl
theorem ww_268 : Cond.code yX4_hasLine cX4_hasLine 2 (some .boolean) ∈ gtb := mg2 (i := 215) rfl rfl
theorem ww_269 : Cond.instanceMethod yX4_hasLine ∈ gtb := mg2 (i := 213) rfl rfl
theorem ww_270 : Cond.selects RX4 yX4_hasLine yX4_hasLine ∈ gtb := mg2 (i := 214) rfl rfl
theorem ww_271 : Cond.code yX4_isTaken cX4_isTaken 6 (some .boolean) ∈ gtb := mg2 (i := 219) rfl rfl
theorem ww_272 : Cond.instanceMethod yX4_isTaken ∈ gtb := mg2 (i := 217) rfl rfl
theorem ww_273 : Cond.selects RX4 yX4_isTaken yX4_isTaken ∈ gtb := mg2 (i := 218) rfl rfl
theorem ww_274 : Cond.fieldLink RX4 43 "FivePlayers$Play" "sides" "[I" ∈ gtb := mg1 (i := 89) rfl rfl
theorem ww_275 : Cond.code yX4_addEntry cX4_addEntry 5 (some .int) ∈ gtb := mg2 (i := 223) rfl rfl
theorem ww_276 : Cond.instanceMethod yX4_addEntry ∈ gtb := mg2 (i := 221) rfl rfl
theorem ww_277 : Cond.selects RX4 yX4_addEntry yX4_addEntry ∈ gtb := mg2 (i := 222) rfl rfl
theorem ww_278 : Cond.methodLink RX11 125 yX4_hasLine ∈ gtb := mg2 (i := 212) rfl rfl
theorem ww_279 : Cond.methodLink RX11 128 yX4_isTaken ∈ gtb := mg2 (i := 216) rfl rfl
theorem ww_280 : Cond.methodLink RX11 135 yX4_addEntry ∈ gtb := mg2 (i := 220) rfl rfl
theorem ww_281 : Cond.code yX11_entry cX11_entry 5 (some .int) ∈ gtb := mg2 (i := 211) rfl rfl
theorem ww_282 : Cond.instanceMethod yX11_entry ∈ gtb := mg2 (i := 209) rfl rfl
theorem ww_283 : Cond.selects RX11 yX11_entry yX11_entry ∈ gtb := mg2 (i := 210) rfl rfl
theorem ww_284 : Cond.code yX4_hasEntry cX4_hasEntry 2 (some .boolean) ∈ gtb := mg2 (i := 231) rfl rfl
theorem ww_285 : Cond.instanceMethod yX4_hasEntry ∈ gtb := mg2 (i := 229) rfl rfl
theorem ww_286 : Cond.selects RX4 yX4_hasEntry yX4_hasEntry ∈ gtb := mg2 (i := 230) rfl rfl
theorem ww_287 : Cond.methodLink RX11 139 yX4_hasEntry ∈ gtb := mg2 (i := 228) rfl rfl
theorem ww_288 : Cond.fieldLink RX11 142 "FivePlayers$Play" "whose" "[I" ∈ gtb := mg1 (i := 81) rfl rfl
theorem ww_289 : Cond.fieldLink RX11 145 "FivePlayers$Play" "from" "[I" ∈ gtb := mg1 (i := 84) rfl rfl
theorem ww_290 : Cond.fieldLink RX11 148 "FivePlayers$Play" "to" "[I" ∈ gtb := mg1 (i := 87) rfl rfl
theorem ww_291 : Cond.fieldLink RX11 151 "FivePlayers$Play" "sides" "[I" ∈ gtb := mg1 (i := 90) rfl rfl
theorem ww_292 : Cond.code yX11_entryIs cX11_entryIs 3 (some .int) ∈ gtb := mg2 (i := 227) rfl rfl
theorem ww_293 : Cond.instanceMethod yX11_entryIs ∈ gtb := mg2 (i := 225) rfl rfl
theorem ww_294 : Cond.selects RX11 yX11_entryIs yX11_entryIs ∈ gtb := mg2 (i := 226) rfl rfl
theorem ww_295 : Cond.methodLink RX11 192 yX7_add ∈ gtb := mg3 (i := 75) rfl rfl
theorem ww_296 : Cond.code yX11_feed cX11_feed 5 (some .int) ∈ gtb := mg3 (i := 74) rfl rfl
theorem ww_297 : Cond.instanceMethod yX11_feed ∈ gtb := mg3 (i := 72) rfl rfl
theorem ww_298 : Cond.selects RX11 yX11_feed yX11_feed ∈ gtb := mg3 (i := 73) rfl rfl
theorem ww_299 : Cond.code yX11_shiftError cX11_shiftError 7 (some .int) ∈ gtb := mg2 (i := 239) rfl rfl
theorem ww_300 : Cond.instanceMethod yX11_shiftError ∈ gtb := mg2 (i := 238) rfl rfl
theorem ww_301 : Cond.selects RX11 yX11_shiftError yX11_shiftError ∈ gtb := mg0 (i := 2) rfl rfl
theorem ww_302 : Cond.code yX4_delay cX4_delay 3 none ∈ gtb := mg3 (i := 3) rfl rfl
theorem ww_303 : Cond.instanceMethod yX4_delay ∈ gtb := mg3 (i := 1) rfl rfl
theorem ww_304 : Cond.selects RX4 yX4_delay yX4_delay ∈ gtb := mg3 (i := 2) rfl rfl
theorem ww_305 : Cond.methodLink RX7 17 arraycopyName ∈ gtb := mg3 (i := 206) rfl rfl
theorem ww_306 : Cond.code yX7_become cX7_become 2 none ∈ gtb := mg3 (i := 205) rfl rfl
theorem ww_307 : Cond.instanceMethod yX7_become ∈ gtb := mg3 (i := 203) rfl rfl
theorem ww_308 : Cond.selects RX7 yX7_become yX7_become ∈ gtb := mg3 (i := 204) rfl rfl
theorem ww_309 : Cond.methodLink RX11 174 yX4_knows ∈ gtb := mg3 (i := 28) rfl rfl
theorem ww_310 : Cond.fieldLink RX11 177 "FivePlayers$Play" "known" "[I" ∈ gtb := mg1 (i := 97) rfl rfl
theorem ww_311 : Cond.code yX11_know cX11_know 4 (some .int) ∈ gtb := mg3 (i := 23) rfl rfl
theorem ww_312 : Cond.instanceMethod yX11_know ∈ gtb := mg3 (i := 21) rfl rfl
theorem ww_313 : Cond.selects RX11 yX11_know yX11_know ∈ gtb := mg3 (i := 22) rfl rfl
theorem ww_314 : Cond.code yX8_weighSets cX8_weighSets 5 none ∈ gtb := mg4 (i := 197) rfl rfl
theorem ww_315 : Cond.instanceMethod yX8_weighSets ∈ gtb := mg4 (i := 196) rfl rfl
theorem ww_316 : Cond.selects RX8 yX8_weighSets yX8_weighSets ∈ gtb := mg0 (i := 30) rfl rfl
theorem ww_317 : Cond.methodLink RX8 166 yJ6_bitCount_0f7a4 ∈ gtb := mg4 (i := 202) rfl rfl
theorem ww_318 : Cond.code yX8_isLess cX8_isLess 4 (some .boolean) ∈ gtb := mg4 (i := 201) rfl rfl
theorem ww_319 : Cond.instanceMethod yX8_isLess ∈ gtb := mg4 (i := 200) rfl rfl
theorem ww_320 : Cond.selects RX8 yX8_isLess yX8_isLess ∈ gtb := mg0 (i := 31) rfl rfl
theorem ww_321 : Cond.methodLink RX8 160 yX8_weighSets ∈ gtb := mg4 (i := 194) rfl rfl
theorem ww_322 : Cond.methodLink RX8 112 yX4_allParts ∈ gtb := mg4 (i := 116) rfl rfl
theorem ww_323 : Cond.methodLink RX8 163 yX8_isLess ∈ gtb := mg4 (i := 198) rfl rfl
theorem ww_324 : Cond.code yX8_leftOut cX8_leftOut 4 (some .int) ∈ gtb := mg4 (i := 193) rfl rfl
theorem ww_325 : Cond.instanceMethod yX8_leftOut ∈ gtb := mg4 (i := 191) rfl rfl
theorem ww_326 : Cond.selects RX8 yX8_leftOut yX8_leftOut ∈ gtb := mg4 (i := 192) rfl rfl
theorem ww_327 : Cond.methodLink RX4 95 yX4_weight ∈ gtb := mg4 (i := 212) rfl rfl
theorem ww_328 : Cond.code yX4_weightOfSet cX4_weightOfSet 4 (some .int) ∈ gtb := mg4 (i := 211) rfl rfl
theorem ww_329 : Cond.instanceMethod yX4_weightOfSet ∈ gtb := mg4 (i := 209) rfl rfl
theorem ww_330 : Cond.selects RX4 yX4_weightOfSet yX4_weightOfSet ∈ gtb := mg4 (i := 210) rfl rfl
theorem ww_331 : Cond.methodLink RX4 89 Lib.Math.max.name ∈ gtb := mg2 (i := 61) rfl rfl
theorem ww_332 : Cond.code yX4_lastLine cX4_lastLine 3 (some .int) ∈ gtb := mg2 (i := 60) rfl rfl
theorem ww_333 : Cond.instanceMethod yX4_lastLine ∈ gtb := mg2 (i := 58) rfl rfl
theorem ww_334 : Cond.selects RX4 yX4_lastLine yX4_lastLine ∈ gtb := mg2 (i := 59) rfl rfl
theorem ww_335 : Cond.methodLink RX11 72 yX4_lastLine ∈ gtb := mg2 (i := 57) rfl rfl
theorem ww_336 : Cond.code yX11_lines cX11_lines 3 (some .int) ∈ gtb := mg2 (i := 51) rfl rfl
theorem ww_337 : Cond.instanceMethod yX11_lines ∈ gtb := mg2 (i := 49) rfl rfl
theorem ww_338 : Cond.selects RX11 yX11_lines yX11_lines ∈ gtb := mg2 (i := 50) rfl rfl
theorem ww_339 : Cond.code yX11_lowestBits cX11_lowestBits 2 (some .int) ∈ gtb := mg5 (i := 78) rfl rfl
theorem ww_340 : Cond.static yX11_lowestBits ∈ gtb := mg5 (i := 77) rfl rfl
theorem ww_341 : Cond.code yX7_holds cX7_holds 3 (some .boolean) ∈ gtb := mg5 (i := 86) rfl rfl
theorem ww_342 : Cond.instanceMethod yX7_holds ∈ gtb := mg5 (i := 84) rfl rfl
theorem ww_343 : Cond.selects RX7 yX7_holds yX7_holds ∈ gtb := mg5 (i := 85) rfl rfl
theorem ww_344 : Cond.methodLink RX11 331 yX7_holds ∈ gtb := mg5 (i := 83) rfl rfl
theorem ww_345 : Cond.code yX11_move cX11_move 6 (some .int) ∈ gtb := mg5 (i := 82) rfl rfl
theorem ww_346 : Cond.instanceMethod yX11_move ∈ gtb := mg5 (i := 80) rfl rfl
theorem ww_347 : Cond.selects RX11 yX11_move yX11_move ∈ gtb := mg5 (i := 81) rfl rfl
theorem ww_348 : Cond.fieldLink RX8 45 "FivePlayers$Solver" "inSome" "I" ∈ gtb := mg1 (i := 194) rfl rfl
theorem ww_349 : Cond.fieldLink RX8 48 "FivePlayers$Solver" "inEach" "I" ∈ gtb := mg1 (i := 196) rfl rfl
theorem ww_350 : Cond.code yX8_findShares cX8_findShares 6 (some .boolean) ∈ gtb := mg4 (i := 220) rfl rfl
theorem ww_351 : Cond.instanceMethod yX8_findShares ∈ gtb := mg4 (i := 218) rfl rfl
theorem ww_352 : Cond.selects RX8 yX8_findShares yX8_findShares ∈ gtb := mg4 (i := 219) rfl rfl
theorem ww_353 : Cond.methodLink RX11 162 yX4_covers ∈ gtb := mg3 (i := 8) rfl rfl
theorem ww_354 : Cond.code yX11_on cX11_on 4 (some .int) ∈ gtb := mg3 (i := 7) rfl rfl
theorem ww_355 : Cond.instanceMethod yX11_on ∈ gtb := mg3 (i := 5) rfl rfl
theorem ww_356 : Cond.selects RX11 yX11_on yX11_on ∈ gtb := mg3 (i := 6) rfl rfl
theorem ww_357 : Cond.code yX4_entriesOf cX4_entriesOf 4 (some .int) ∈ gtb := mg2 (i := 207) rfl rfl
theorem ww_358 : Cond.instanceMethod yX4_entriesOf ∈ gtb := mg2 (i := 205) rfl rfl
theorem ww_359 : Cond.selects RX4 yX4_entriesOf yX4_entriesOf ∈ gtb := mg2 (i := 206) rfl rfl
theorem ww_360 : Cond.fieldLink RX11 98 "FivePlayers$Play" "role" "[LFivePlayers$Role;" ∈ gtb := mg1 (i := 75) rfl rfl
theorem ww_361 : Cond.fieldLink RX11 110 "FivePlayers$Role" "kind" "I" ∈ gtb := mg2 (i := 87) rfl rfl
theorem ww_362 : Cond.fieldLink RX11 113 "FivePlayers$Role" "need" "I" ∈ gtb := mg2 (i := 91) rfl rfl
theorem ww_363 : Cond.fieldLink RX11 116 "FivePlayers$Role" "age" "I" ∈ gtb := mg2 (i := 94) rfl rfl
theorem ww_364 : Cond.fieldLink RX11 119 "FivePlayers$Role" "wig" "I" ∈ gtb := mg2 (i := 99) rfl rfl
theorem ww_365 : Cond.methodLink RX11 107 yX4_weight ∈ gtb := mg2 (i := 196) rfl rfl
theorem ww_366 : Cond.methodLink RX11 122 yX4_entriesOf ∈ gtb := mg2 (i := 204) rfl rfl
theorem ww_367 : Cond.code yX11_partIs cX11_partIs 4 (some .int) ∈ gtb := mg2 (i := 203) rfl rfl
theorem ww_368 : Cond.instanceMethod yX11_partIs ∈ gtb := mg2 (i := 201) rfl rfl
theorem ww_369 : Cond.selects RX11 yX11_partIs yX11_partIs ∈ gtb := mg2 (i := 202) rfl rfl
theorem ww_370 : Cond.fieldLink RX4 46 "FivePlayers$Play" "gift" "[I" ∈ gtb := mg1 (i := 92) rfl rfl
theorem ww_371 : Cond.fieldLink RX4 49 "FivePlayers$Play" "age" "[I" ∈ gtb := mg1 (i := 94) rfl rfl
theorem ww_372 : Cond.code yX4_addPlayer cX4_addPlayer 3 (some .int) ∈ gtb := mg3 (i := 19) rfl rfl
theorem ww_373 : Cond.instanceMethod yX4_addPlayer ∈ gtb := mg3 (i := 17) rfl rfl
theorem ww_374 : Cond.selects RX4 yX4_addPlayer yX4_addPlayer ∈ gtb := mg3 (i := 18) rfl rfl
theorem ww_375 : Cond.methodLink RX11 168 yX4_addPlayer ∈ gtb := mg3 (i := 16) rfl rfl
theorem ww_376 : Cond.code yX11_player cX11_player 3 (some .int) ∈ gtb := mg3 (i := 15) rfl rfl
theorem ww_377 : Cond.instanceMethod yX11_player ∈ gtb := mg3 (i := 13) rfl rfl
theorem ww_378 : Cond.selects RX11 yX11_player yX11_player ∈ gtb := mg3 (i := 14) rfl rfl
theorem ww_379 : Cond.methodLink RX11 328 yX11_lowestBits ∈ gtb := mg5 (i := 76) rfl rfl
theorem ww_380 : Cond.code yX11_put cX11_put 4 (some .int) ∈ gtb := mg5 (i := 75) rfl rfl
theorem ww_381 : Cond.instanceMethod yX11_put ∈ gtb := mg5 (i := 73) rfl rfl
theorem ww_382 : Cond.selects RX11 yX11_put yX11_put ∈ gtb := mg5 (i := 74) rfl rfl
theorem ww_383 : Cond.methodLink RX11 322 yJ7_fill_53178 ∈ gtb := mg5 (i := 71) rfl rfl
theorem ww_384 : Cond.code yX11_sheet cX11_sheet 4 (some .int) ∈ gtb := mg5 (i := 70) rfl rfl
theorem ww_385 : Cond.instanceMethod yX11_sheet ∈ gtb := mg5 (i := 68) rfl rfl
theorem ww_386 : Cond.selects RX11 yX11_sheet yX11_sheet ∈ gtb := mg5 (i := 69) rfl rfl
theorem ww_387 : Cond.methodLink RX11 154 yX11_shiftError ∈ gtb := mg2 (i := 236) rfl rfl
theorem ww_388 : Cond.methodLink RX11 158 yX4_delay ∈ gtb := mg3 (i := 0) rfl rfl
theorem ww_389 : Cond.code yX11_shift cX11_shift 4 (some .int) ∈ gtb := mg2 (i := 235) rfl rfl
theorem ww_390 : Cond.instanceMethod yX11_shift ∈ gtb := mg2 (i := 233) rfl rfl
theorem ww_391 : Cond.selects RX11 yX11_shift yX11_shift ∈ gtb := mg2 (i := 234) rfl rfl
theorem ww_392 : Cond.code yX11_tell cX11_tell 2 (some .int) ∈ gtb := mg5 (i := 104) rfl rfl
theorem ww_393 : Cond.instanceMethod yX11_tell ∈ gtb := mg5 (i := 102) rfl rfl
theorem ww_394 : Cond.selects RX11 yX11_tell yX11_tell ∈ gtb := mg5 (i := 103) rfl rfl
theorem ww_395 : Cond.fieldLink RX5 29 "FivePlayers$Reader" "place" "I" ∈ gtb := mg2 (i := 0) rfl rfl
theorem ww_396 : Cond.fieldLink RX5 20 "FivePlayers$Reader" "tape" "LFivePlayers$Row;" ∈ gtb := mg1 (i := 238) rfl rfl
theorem ww_397 : Cond.fieldLink RX5 41 "FivePlayers$Row" "size" "I" ∈ gtb := mg1 (i := 51) rfl rfl
theorem ww_398 : Cond.fieldLink RX5 54 "FivePlayers$Row" "at" "[I" ∈ gtb := mg1 (i := 46) rfl rfl
theorem ww_399 : Cond.code yX5_next cX5_next 1 (some .int) ∈ gtb := mg3 (i := 104) rfl rfl
theorem ww_400 : Cond.initialized RX5 ∈ gtb := mg1 (i := 6) rfl rfl
theorem ww_401 : Cond.instanceMethod yX5_next ∈ gtb := mg3 (i := 103) rfl rfl
theorem ww_402 : Cond.selects RX5 yX5_next yX5_next ∈ gtb := mg0 (i := 8) rfl rfl
theorem ww_403 : Cond.code yX5_isDigit cX5_isDigit 1 (some .boolean) ∈ gtb := mg3 (i := 107) rfl rfl
theorem ww_404 : Cond.static yX5_isDigit ∈ gtb := mg3 (i := 106) rfl rfl
theorem ww_405 : Cond.methodLink RX5 61 yX5_next ∈ gtb := mg3 (i := 101) rfl rfl
theorem ww_406 : Cond.methodLink RX5 72 yX5_isDigit ∈ gtb := mg3 (i := 105) rfl rfl
theorem ww_407 : Cond.fieldLink RX5 14 "FivePlayers$Reader" "code" "LFivePlayers$Row;" ∈ gtb := mg1 (i := 236) rfl rfl
theorem ww_408 : Cond.methodLink RX5 69 yX7_add ∈ gtb := mg3 (i := 112) rfl rfl
theorem ww_409 : Cond.code yX5_readNumber cX5_readNumber 3 none ∈ gtb := mg3 (i := 111) rfl rfl
theorem ww_410 : Cond.instanceMethod yX5_readNumber ∈ gtb := mg3 (i := 110) rfl rfl
theorem ww_411 : Cond.selects RX5 yX5_readNumber yX5_readNumber ∈ gtb := mg0 (i := 9) rfl rfl
theorem ww_412 : Cond.fieldLink RX5 33 "FivePlayers$Reader" "faulty" "Z" ∈ gtb := mg2 (i := 2) rfl rfl
theorem ww_413 : Cond.code yX5_readClosing cX5_readClosing 1 none ∈ gtb := mg3 (i := 198) rfl rfl
theorem ww_414 : Cond.instanceMethod yX5_readClosing ∈ gtb := mg3 (i := 197) rfl rfl
theorem ww_415 : Cond.selects RX5 yX5_readClosing yX5_readClosing ∈ gtb := mg0 (i := 10) rfl rfl
theorem ww_416 : Cond.code yX5_levelOf cX5_levelOf 1 (some .int) ∈ gtb := mg3 (i := 201) rfl rfl
theorem ww_417 : Cond.static yX5_levelOf ∈ gtb := mg3 (i := 200) rfl rfl
theorem ww_418 : Cond.code yX11_told cX11_told 2 (some .int) ∈ gtb := mg5 (i := 128) rfl rfl
theorem ww_419 : Cond.instanceMethod yX11_told ∈ gtb := mg5 (i := 126) rfl rfl
theorem ww_420 : Cond.selects RX11 yX11_told yX11_told ∈ gtb := mg5 (i := 127) rfl rfl
theorem ww_421 : Cond.code yX11_trace cX11_trace 2 (some .int) ∈ gtb := mg5 (i := 66) rfl rfl
theorem ww_422 : Cond.instanceMethod yX11_trace ∈ gtb := mg5 (i := 64) rfl rfl
theorem ww_423 : Cond.selects RX11 yX11_trace yX11_trace ∈ gtb := mg5 (i := 65) rfl rfl
theorem ww_424 : Cond.methodLink RX11 183 yX10_wishOf ∈ gtb := mg3 (i := 59) rfl rfl
theorem ww_425 : Cond.code yX11_wish cX11_wish 3 (some .int) ∈ gtb := mg3 (i := 58) rfl rfl
theorem ww_426 : Cond.instanceMethod yX11_wish ∈ gtb := mg3 (i := 56) rfl rfl
theorem ww_427 : Cond.selects RX11 yX11_wish yX11_wish ∈ gtb := mg3 (i := 57) rfl rfl
theorem ww_428 : Cond.code yX12_above cX12_above 1 (some .int) ∈ gtb := mg6 (i := 40) rfl rfl
theorem ww_429 : Cond.initialized RX12 ∈ gtb := mg1 (i := 7) rfl rfl
theorem ww_430 : Cond.static yX12_above ∈ gtb := mg6 (i := 39) rfl rfl
theorem ww_431 : Cond.fieldLink RX12 7 "FivePlayersModel" "now" "[I" ∈ gtb := mg5 (i := 135) rfl rfl
theorem ww_432 : Cond.code yX12_allParts cX12_allParts 1 (some .int) ∈ gtb := mg7 (i := 10) rfl rfl
theorem ww_433 : Cond.instanceMethod yX12_allParts ∈ gtb := mg7 (i := 9) rfl rfl
theorem ww_434 : Cond.selects RX12 yX12_allParts yX12_allParts ∈ gtb := mg0 (i := 64) rfl rfl
theorem ww_435 : Cond.code yX12_in cX12_in 3 (some .boolean) ∈ gtb := mg6 (i := 9) rfl rfl
theorem ww_436 : Cond.static yX12_in ∈ gtb := mg6 (i := 8) rfl rfl
theorem ww_437 : Cond.methodLink RX12 91 yX12_in ∈ gtb := mg6 (i := 7) rfl rfl
theorem ww_438 : Cond.code yX12_isPart cX12_isPart 2 (some .boolean) ∈ gtb := mg6 (i := 30) rfl rfl
theorem ww_439 : Cond.instanceMethod yX12_isPart ∈ gtb := mg6 (i := 29) rfl rfl
theorem ww_440 : Cond.selects RX12 yX12_isPart yX12_isPart ∈ gtb := mg0 (i := 34) rfl rfl
theorem ww_441 : Cond.fieldLink RX12 16 "FivePlayersModel" "errors" "[I" ∈ gtb := mg5 (i := 138) rfl rfl
theorem ww_442 : Cond.constant RX12 90 (-1000000) ∈ gtb := mg6 (i := 14) rfl rfl
theorem ww_443 : Cond.code yX12_finds cX12_finds 2 (some .int) ∈ gtb := mg6 (i := 13) rfl rfl
theorem ww_444 : Cond.instanceMethod yX12_finds ∈ gtb := mg6 (i := 12) rfl rfl
theorem ww_445 : Cond.selects RX12 yX12_finds yX12_finds ∈ gtb := mg0 (i := 32) rfl rfl
theorem ww_446 : Cond.code yX12_its cX12_its 3 (some .int) ∈ gtb := mg6 (i := 34) rfl rfl
theorem ww_447 : Cond.instanceMethod yX12_its ∈ gtb := mg6 (i := 33) rfl rfl
theorem ww_448 : Cond.selects RX12 yX12_its yX12_its ∈ gtb := mg0 (i := 35) rfl rfl
theorem ww_449 : Cond.methodLink RX12 103 yX12_above ∈ gtb := mg6 (i := 38) rfl rfl
theorem ww_450 : Cond.code yX12_isUnder cX12_isUnder 3 (some .boolean) ∈ gtb := mg6 (i := 37) rfl rfl
theorem ww_451 : Cond.static yX12_isUnder ∈ gtb := mg6 (i := 36) rfl rfl
theorem ww_452 : Cond.code yX12_entryOf cX12_entryOf 3 (some .int) ∈ gtb := mg6 (i := 18) rfl rfl
theorem ww_453 : Cond.instanceMethod yX12_entryOf ∈ gtb := mg6 (i := 17) rfl rfl
theorem ww_454 : Cond.selects RX12 yX12_entryOf yX12_entryOf ∈ gtb := mg0 (i := 33) rfl rfl
theorem ww_455 : Cond.methodLink RX12 99 yX12_entryOf ∈ gtb := mg6 (i := 15) rfl rfl
theorem ww_456 : Cond.code yX12_weight cX12_weight 4 (some .int) ∈ gtb := mg6 (i := 44) rfl rfl
theorem ww_457 : Cond.instanceMethod yX12_weight ∈ gtb := mg6 (i := 43) rfl rfl
theorem ww_458 : Cond.selects RX12 yX12_weight yX12_weight ∈ gtb := mg0 (i := 36) rfl rfl
theorem ww_459 : Cond.methodLink RX12 110 yX12_isPart ∈ gtb := mg6 (i := 27) rfl rfl
theorem ww_460 : Cond.methodLink RX12 114 yX12_its ∈ gtb := mg6 (i := 31) rfl rfl
theorem ww_461 : Cond.methodLink RX12 117 yX12_isUnder ∈ gtb := mg6 (i := 35) rfl rfl
theorem ww_462 : Cond.methodLink RX12 95 yX12_finds ∈ gtb := mg6 (i := 10) rfl rfl
theorem ww_463 : Cond.methodLink RX12 121 yX12_weight ∈ gtb := mg6 (i := 41) rfl rfl
theorem ww_464 : Cond.code yX12_as cX12_as 3 (some .int) ∈ gtb := mg6 (i := 26) rfl rfl
theorem ww_465 : Cond.instanceMethod yX12_as ∈ gtb := mg6 (i := 24) rfl rfl
theorem ww_466 : Cond.selects RX12 yX12_as yX12_as ∈ gtb := mg6 (i := 25) rfl rfl
theorem ww_467 : Cond.code yX12_meetAt cX12_meetAt 8 (some .int) ∈ gtb := mg6 (i := 215) rfl rfl
theorem ww_468 : Cond.instanceMethod yX12_meetAt ∈ gtb := mg6 (i := 214) rfl rfl
theorem ww_469 : Cond.selects RX12 yX12_meetAt yX12_meetAt ∈ gtb := mg0 (i := 61) rfl rfl
theorem ww_470 : Cond.code yX12_done cX12_done 3 (some .int) ∈ gtb := mg6 (i := 123) rfl rfl
theorem ww_471 : Cond.static yX12_done ∈ gtb := mg6 (i := 122) rfl rfl
theorem ww_472 : Cond.fieldLink RX12 37 "FivePlayersModel" "pile" "[I" ∈ gtb := mg5 (i := 149) rfl rfl
theorem ww_473 : Cond.methodLink RX12 221 yX12_done ∈ gtb := mg6 (i := 121) rfl rfl
theorem ww_474 : Cond.fieldLink RX12 28 "FivePlayersModel" "named" "[I" ∈ gtb := mg5 (i := 143) rfl rfl
theorem ww_475 : Cond.code yX12_comesTo cX12_comesTo 6 (some .int) ∈ gtb := mg6 (i := 120) rfl rfl
theorem ww_476 : Cond.instanceMethod yX12_comesTo ∈ gtb := mg6 (i := 119) rfl rfl
theorem ww_477 : Cond.selects RX12 yX12_comesTo yX12_comesTo ∈ gtb := mg0 (i := 47) rfl rfl
theorem ww_478 : Cond.code yX12_held cX12_held 2 (some .int) ∈ gtb := mg6 (i := 134) rfl rfl
theorem ww_479 : Cond.static yX12_held ∈ gtb := mg6 (i := 133) rfl rfl
theorem ww_480 : Cond.methodLink RX12 154 yX12_comesTo ∈ gtb := mg6 (i := 117) rfl rfl
theorem ww_481 : Cond.methodLink RX12 157 yX12_held ∈ gtb := mg6 (i := 132) rfl rfl
theorem ww_482 : Cond.code yX12_changeOf cX12_changeOf 5 (some .int) ∈ gtb := mg6 (i := 199) rfl rfl
theorem ww_483 : Cond.instanceMethod yX12_changeOf ∈ gtb := mg6 (i := 198) rfl rfl
theorem ww_484 : Cond.selects RX12 yX12_changeOf yX12_changeOf ∈ gtb := mg0 (i := 58) rfl rfl
theorem ww_485 : Cond.methodLink RX12 225 yX12_changeOf ∈ gtb := mg6 (i := 196) rfl rfl
theorem ww_486 : Cond.code yX12_nearAt cX12_nearAt 9 (some .int) ∈ gtb := mg6 (i := 219) rfl rfl
theorem ww_487 : Cond.instanceMethod yX12_nearAt ∈ gtb := mg6 (i := 218) rfl rfl
theorem ww_488 : Cond.selects RX12 yX12_nearAt yX12_nearAt ∈ gtb := mg0 (i := 62) rfl rfl
theorem ww_489 : Cond.methodLink RX12 228 yX12_meetAt ∈ gtb := mg6 (i := 212) rfl rfl
theorem ww_490 : Cond.methodLink RX12 231 yX12_nearAt ∈ gtb := mg6 (i := 216) rfl rfl
theorem ww_491 : Cond.fieldLink RX12 22 "FivePlayersModel" "how" "[I" ∈ gtb := mg5 (i := 141) rfl rfl
theorem ww_492 : Cond.fieldLink RX12 25 "FivePlayersModel" "lineOf" "[I" ∈ gtb := mg5 (i := 142) rfl rfl
theorem ww_493 : Cond.fieldLink RX12 19 "FivePlayersModel" "barred" "[I" ∈ gtb := mg5 (i := 140) rfl rfl
theorem ww_494 : Cond.code yX12_layTwo cX12_layTwo 8 none ∈ gtb := mg6 (i := 211) rfl rfl
theorem ww_495 : Cond.instanceMethod yX12_layTwo ∈ gtb := mg6 (i := 210) rfl rfl
theorem ww_496 : Cond.selects RX12 yX12_layTwo yX12_layTwo ∈ gtb := mg0 (i := 60) rfl rfl
theorem ww_497 : Cond.fieldLink RX12 106 "FivePlayersModel" "isLaid" "Z" ∈ gtb := mg5 (i := 139) rfl rfl
theorem ww_498 : Cond.methodLink RX12 234 yX12_layTwo ∈ gtb := mg6 (i := 208) rfl rfl
theorem ww_499 : Cond.code yX12_lay cX12_lay 3 none ∈ gtb := mg6 (i := 207) rfl rfl
theorem ww_500 : Cond.instanceMethod yX12_lay ∈ gtb := mg6 (i := 206) rfl rfl
theorem ww_501 : Cond.selects RX12 yX12_lay yX12_lay ∈ gtb := mg0 (i := 59) rfl rfl
theorem ww_502 : Cond.code yX12_playerOf cX12_playerOf 3 (some .int) ∈ gtb := mg6 (i := 112) rfl rfl
theorem ww_503 : Cond.instanceMethod yX12_playerOf ∈ gtb := mg6 (i := 111) rfl rfl
theorem ww_504 : Cond.selects RX12 yX12_playerOf yX12_playerOf ∈ gtb := mg0 (i := 45) rfl rfl
theorem ww_505 : Cond.methodLink RX12 148 yX12_playerOf ∈ gtb := mg6 (i := 109) rfl rfl
theorem ww_506 : Cond.code yX12_names cX12_names 3 none ∈ gtb := mg6 (i := 116) rfl rfl
theorem ww_507 : Cond.instanceMethod yX12_names ∈ gtb := mg6 (i := 115) rfl rfl
theorem ww_508 : Cond.selects RX12 yX12_names yX12_names ∈ gtb := mg0 (i := 46) rfl rfl
theorem ww_509 : Cond.methodLink RX12 151 yX12_names ∈ gtb := mg6 (i := 113) rfl rfl
theorem ww_510 : Cond.code yX12_isAble cX12_isAble 3 (some .boolean) ∈ gtb := mg6 (i := 108) rfl rfl
theorem ww_511 : Cond.instanceMethod yX12_isAble ∈ gtb := mg6 (i := 107) rfl rfl
theorem ww_512 : Cond.selects RX12 yX12_isAble yX12_isAble ∈ gtb := mg0 (i := 44) rfl rfl
theorem ww_513 : Cond.methodLink RX12 237 yX12_lay ∈ gtb := mg6 (i := 204) rfl rfl
theorem ww_514 : Cond.fieldLink RX12 40 "FivePlayersModel" "bar" "[I" ∈ gtb := mg5 (i := 150) rfl rfl
theorem ww_515 : Cond.methodLink RX12 160 yX12_isAble ∈ gtb := mg6 (i := 105) rfl rfl
theorem ww_516 : Cond.code yX12_findBar cX12_findBar 4 none ∈ gtb := mg6 (i := 238) rfl rfl
theorem ww_517 : Cond.instanceMethod yX12_findBar ∈ gtb := mg6 (i := 237) rfl rfl
theorem ww_518 : Cond.selects RX12 yX12_findBar yX12_findBar ∈ gtb := mg0 (i := 63) rfl rfl
theorem ww_519 : Cond.methodLink RX12 243 yX12_findBar ∈ gtb := mg6 (i := 235) rfl rfl
theorem ww_520 : Cond.code yX12_bars cX12_bars 2 (some .int) ∈ gtb := mg6 (i := 234) rfl rfl
theorem ww_521 : Cond.instanceMethod yX12_bars ∈ gtb := mg6 (i := 232) rfl rfl
theorem ww_522 : Cond.selects RX12 yX12_bars yX12_bars ∈ gtb := mg6 (i := 233) rfl rfl
theorem ww_523 : Cond.code yX12_isTroupe cX12_isTroupe 2 (some .boolean) ∈ gtb := mg7 (i := 42) rfl rfl
theorem ww_524 : Cond.instanceMethod yX12_isTroupe ∈ gtb := mg7 (i := 41) rfl rfl
theorem ww_525 : Cond.selects RX12 yX12_isTroupe yX12_isTroupe ∈ gtb := mg0 (i := 67) rfl rfl
theorem ww_526 : Cond.fieldLink RX12 52 "FivePlayersModel" "mayPlay" "[Z" ∈ gtb := mg5 (i := 154) rfl rfl
theorem ww_527 : Cond.methodLink RX12 249 yX12_allParts ∈ gtb := mg7 (i := 7) rfl rfl
theorem ww_528 : Cond.code yX12_findSets cX12_findSets 6 none ∈ gtb := mg7 (i := 55) rfl rfl
theorem ww_529 : Cond.instanceMethod yX12_findSets ∈ gtb := mg7 (i := 54) rfl rfl
theorem ww_530 : Cond.selects RX12 yX12_findSets yX12_findSets ∈ gtb := mg0 (i := 70) rfl rfl
theorem ww_531 : Cond.code yX12_wishOf cX12_wishOf 3 (some .int) ∈ gtb := mg6 (i := 131) rfl rfl
theorem ww_532 : Cond.instanceMethod yX12_wishOf ∈ gtb := mg6 (i := 130) rfl rfl
theorem ww_533 : Cond.selects RX12 yX12_wishOf yX12_wishOf ∈ gtb := mg0 (i := 48) rfl rfl
theorem ww_534 : Cond.fieldLink RX12 66 "FivePlayersModel" "wishes" "[I" ∈ gtb := mg5 (i := 158) rfl rfl
theorem ww_535 : Cond.fieldLink RX12 69 "FivePlayersModel" "weights" "[I" ∈ gtb := mg5 (i := 159) rfl rfl
theorem ww_536 : Cond.methodLink RX12 163 yX12_wishOf ∈ gtb := mg6 (i := 128) rfl rfl
theorem ww_537 : Cond.fieldLink RX12 56 "FivePlayersModel" "cost" "[I" ∈ gtb := mg5 (i := 155) rfl rfl
theorem ww_538 : Cond.code yX12_findCosts cX12_findCosts 5 none ∈ gtb := mg7 (i := 59) rfl rfl
theorem ww_539 : Cond.instanceMethod yX12_findCosts ∈ gtb := mg7 (i := 58) rfl rfl
theorem ww_540 : Cond.selects RX12 yX12_findCosts yX12_findCosts ∈ gtb := mg0 (i := 71) rfl rfl
theorem ww_541 : Cond.code yX12_joined cX12_joined 3 (some .int) ∈ gtb := mg7 (i := 62) rfl rfl
theorem ww_542 : Cond.static yX12_joined ∈ gtb := mg7 (i := 61) rfl rfl
theorem ww_543 : Cond.fieldLink RX12 59 "FivePlayersModel" "sums" "[I" ∈ gtb := mg5 (i := 156) rfl rfl
theorem ww_544 : Cond.constant RX12 255 1000000000 ∈ gtb := mg7 (i := 51) rfl rfl
theorem ww_545 : Cond.methodLink RX12 256 yX12_findSets ∈ gtb := mg7 (i := 52) rfl rfl
theorem ww_546 : Cond.methodLink RX12 259 yX12_findCosts ∈ gtb := mg7 (i := 56) rfl rfl
theorem ww_547 : Cond.methodLink RX12 262 yX12_joined ∈ gtb := mg7 (i := 60) rfl rfl
theorem ww_548 : Cond.code yX12_findSums cX12_findSums 10 none ∈ gtb := mg7 (i := 50) rfl rfl
theorem ww_549 : Cond.instanceMethod yX12_findSums ∈ gtb := mg7 (i := 49) rfl rfl
theorem ww_550 : Cond.selects RX12 yX12_findSums yX12_findSums ∈ gtb := mg0 (i := 69) rfl rfl
theorem ww_551 : Cond.code yX12_isBest cX12_isBest 8 (some .boolean) ∈ gtb := mg7 (i := 66) rfl rfl
theorem ww_552 : Cond.instanceMethod yX12_isBest ∈ gtb := mg7 (i := 65) rfl rfl
theorem ww_553 : Cond.selects RX12 yX12_isBest yX12_isBest ∈ gtb := mg0 (i := 72) rfl rfl
theorem ww_554 : Cond.methodLink RX12 265 yX12_findSums ∈ gtb := mg7 (i := 47) rfl rfl
theorem ww_555 : Cond.methodLink RX12 268 yX12_isBest ∈ gtb := mg7 (i := 63) rfl rfl
theorem ww_556 : Cond.fieldLink RX12 72 "FivePlayersModel" "who" "[I" ∈ gtb := mg5 (i := 160) rfl rfl
theorem ww_557 : Cond.code yX12_findBest cX12_findBest 9 (some .boolean) ∈ gtb := mg7 (i := 46) rfl rfl
theorem ww_558 : Cond.instanceMethod yX12_findBest ∈ gtb := mg7 (i := 45) rfl rfl
theorem ww_559 : Cond.selects RX12 yX12_findBest yX12_findBest ∈ gtb := mg0 (i := 68) rfl rfl
theorem ww_560 : Cond.code yX12_sumOf cX12_sumOf 4 (some .int) ∈ gtb := mg7 (i := 70) rfl rfl
theorem ww_561 : Cond.instanceMethod yX12_sumOf ∈ gtb := mg7 (i := 69) rfl rfl
theorem ww_562 : Cond.selects RX12 yX12_sumOf yX12_sumOf ∈ gtb := mg0 (i := 73) rfl rfl
theorem ww_563 : Cond.methodLink RX12 272 yX12_isTroupe ∈ gtb := mg7 (i := 39) rfl rfl
theorem ww_564 : Cond.methodLink RX12 275 yX12_findBest ∈ gtb := mg7 (i := 43) rfl rfl
theorem ww_565 : Cond.methodLink RX12 278 yX12_sumOf ∈ gtb := mg7 (i := 67) rfl rfl
theorem ww_566 : Cond.code yX12_best cX12_best 4 (some .int) ∈ gtb := mg7 (i := 38) rfl rfl
theorem ww_567 : Cond.instanceMethod yX12_best ∈ gtb := mg7 (i := 36) rfl rfl
theorem ww_568 : Cond.selects RX12 yX12_best yX12_best ∈ gtb := mg7 (i := 37) rfl rfl
theorem ww_569 : Cond.code yX12_bits cX12_bits 3 (some .int) ∈ gtb := mg7 (i := 93) rfl rfl
theorem ww_570 : Cond.static yX12_bits ∈ gtb := mg7 (i := 92) rfl rfl
theorem ww_571 : Cond.code yX12_isSheet cX12_isSheet 1 (some .boolean) ∈ gtb := mg6 (i := 230) rfl rfl
theorem ww_572 : Cond.static yX12_isSheet ∈ gtb := mg6 (i := 229) rfl rfl
theorem ww_573 : Cond.methodLink RX12 240 yX12_isSheet ∈ gtb := mg6 (i := 228) rfl rfl
theorem ww_574 : Cond.fieldLink RX12 78 "FivePlayersModel" "bitsOf" "[I" ∈ gtb := mg5 (i := 166) rfl rfl
theorem ww_575 : Cond.fieldLink RX12 81 "FivePlayersModel" "sizeOf" "[I" ∈ gtb := mg5 (i := 167) rfl rfl
theorem ww_576 : Cond.fieldLink RX12 84 "FivePlayersModel" "sheets" "[I" ∈ gtb := mg5 (i := 168) rfl rfl
theorem ww_577 : Cond.code yX12_block cX12_block 4 (some .int) ∈ gtb := mg6 (i := 227) rfl rfl
theorem ww_578 : Cond.instanceMethod yX12_block ∈ gtb := mg6 (i := 225) rfl rfl
theorem ww_579 : Cond.selects RX12 yX12_block yX12_block ∈ gtb := mg6 (i := 226) rfl rfl
theorem ww_580 : Cond.fieldLink RX12 290 "FivePlayersModel" "ran" "I" ∈ gtb := mg5 (i := 162) rfl rfl
theorem ww_581 : Cond.fieldLink RX12 75 "FivePlayersModel" "bodies" "[I" ∈ gtb := mg5 (i := 161) rfl rfl
theorem ww_582 : Cond.code yX12_runs cX12_runs 2 none ∈ gtb := mg7 (i := 109) rfl rfl
theorem ww_583 : Cond.instanceMethod yX12_runs ∈ gtb := mg7 (i := 108) rfl rfl
theorem ww_584 : Cond.selects RX12 yX12_runs yX12_runs ∈ gtb := mg0 (i := 77) rfl rfl
theorem ww_585 : Cond.fieldLink RX12 293 "FivePlayersModel" "ownKind" "I" ∈ gtb := mg5 (i := 163) rfl rfl
theorem ww_586 : Cond.methodLink RX12 296 yX12_runs ∈ gtb := mg7 (i := 106) rfl rfl
theorem ww_587 : Cond.fieldLink RX12 302 "FivePlayersModel" "ownWig" "I" ∈ gtb := mg5 (i := 165) rfl rfl
theorem ww_588 : Cond.code yX12_dies cX12_dies 2 (some .int) ∈ gtb := mg7 (i := 125) rfl rfl
theorem ww_589 : Cond.instanceMethod yX12_dies ∈ gtb := mg7 (i := 124) rfl rfl
theorem ww_590 : Cond.selects RX12 yX12_dies yX12_dies ∈ gtb := mg0 (i := 81) rfl rfl
theorem ww_591 : Cond.fieldLink RX12 299 "FivePlayersModel" "ownNumber" "I" ∈ gtb := mg5 (i := 164) rfl rfl
theorem ww_592 : Cond.code yX12_speaks cX12_speaks 2 (some .int) ∈ gtb := mg7 (i := 105) rfl rfl
theorem ww_593 : Cond.instanceMethod yX12_speaks ∈ gtb := mg7 (i := 104) rfl rfl
theorem ww_594 : Cond.selects RX12 yX12_speaks yX12_speaks ∈ gtb := mg0 (i := 76) rfl rfl
theorem ww_595 : Cond.methodLink RX12 305 yX12_speaks ∈ gtb := mg7 (i := 102) rfl rfl
theorem ww_596 : Cond.code yX12_walksPart cX12_walksPart 2 (some .int) ∈ gtb := mg7 (i := 121) rfl rfl
theorem ww_597 : Cond.instanceMethod yX12_walksPart ∈ gtb := mg7 (i := 120) rfl rfl
theorem ww_598 : Cond.selects RX12 yX12_walksPart yX12_walksPart ∈ gtb := mg0 (i := 80) rfl rfl
theorem ww_599 : Cond.methodLink RX12 308 yX12_walksPart ∈ gtb := mg7 (i := 118) rfl rfl
theorem ww_600 : Cond.methodLink RX12 311 yX12_dies ∈ gtb := mg7 (i := 122) rfl rfl
theorem ww_601 : Cond.code yX12_walksSpoken cX12_walksSpoken 3 (some .int) ∈ gtb := mg7 (i := 117) rfl rfl
theorem ww_602 : Cond.instanceMethod yX12_walksSpoken ∈ gtb := mg7 (i := 116) rfl rfl
theorem ww_603 : Cond.selects RX12 yX12_walksSpoken yX12_walksSpoken ∈ gtb := mg0 (i := 79) rfl rfl
theorem ww_604 : Cond.methodLink RX12 314 yX12_walksSpoken ∈ gtb := mg7 (i := 114) rfl rfl
theorem ww_605 : Cond.code yX12_walks cX12_walks 3 (some .int) ∈ gtb := mg7 (i := 113) rfl rfl
theorem ww_606 : Cond.instanceMethod yX12_walks ∈ gtb := mg7 (i := 112) rfl rfl
theorem ww_607 : Cond.selects RX12 yX12_walks yX12_walks ∈ gtb := mg0 (i := 78) rfl rfl
theorem ww_608 : Cond.methodLink RX12 317 yX12_walks ∈ gtb := mg7 (i := 110) rfl rfl
theorem ww_609 : Cond.code yX12_bowsPart cX12_bowsPart 3 (some .int) ∈ gtb := mg7 (i := 137) rfl rfl
theorem ww_610 : Cond.instanceMethod yX12_bowsPart ∈ gtb := mg7 (i := 136) rfl rfl
theorem ww_611 : Cond.selects RX12 yX12_bowsPart yX12_bowsPart ∈ gtb := mg0 (i := 84) rfl rfl
theorem ww_612 : Cond.methodLink RX12 320 yX12_bowsPart ∈ gtb := mg7 (i := 134) rfl rfl
theorem ww_613 : Cond.code yX12_bowsMute cX12_bowsMute 2 (some .int) ∈ gtb := mg7 (i := 133) rfl rfl
theorem ww_614 : Cond.instanceMethod yX12_bowsMute ∈ gtb := mg7 (i := 132) rfl rfl
theorem ww_615 : Cond.selects RX12 yX12_bowsMute yX12_bowsMute ∈ gtb := mg0 (i := 83) rfl rfl
theorem ww_616 : Cond.methodLink RX12 323 yX12_bowsMute ∈ gtb := mg7 (i := 130) rfl rfl
theorem ww_617 : Cond.code yX12_bows cX12_bows 3 (some .int) ∈ gtb := mg7 (i := 129) rfl rfl
theorem ww_618 : Cond.instanceMethod yX12_bows ∈ gtb := mg7 (i := 128) rfl rfl
theorem ww_619 : Cond.selects RX12 yX12_bows yX12_bows ∈ gtb := mg0 (i := 82) rfl rfl
theorem ww_620 : Cond.code yX12_isPlayer cX12_isPlayer 2 (some .boolean) ∈ gtb := mg6 (i := 100) rfl rfl
theorem ww_621 : Cond.instanceMethod yX12_isPlayer ∈ gtb := mg6 (i := 99) rfl rfl
theorem ww_622 : Cond.selects RX12 yX12_isPlayer yX12_isPlayer ∈ gtb := mg0 (i := 43) rfl rfl
theorem ww_623 : Cond.code yX12_isOn cX12_isOn 6 (some .boolean) ∈ gtb := mg6 (i := 60) rfl rfl
theorem ww_624 : Cond.instanceMethod yX12_isOn ∈ gtb := mg6 (i := 59) rfl rfl
theorem ww_625 : Cond.selects RX12 yX12_isOn yX12_isOn ∈ gtb := mg0 (i := 38) rfl rfl
theorem ww_626 : Cond.methodLink RX12 145 yX12_isPlayer ∈ gtb := mg6 (i := 97) rfl rfl
theorem ww_627 : Cond.methodLink RX12 127 yX12_isOn ∈ gtb := mg6 (i := 57) rfl rfl
theorem ww_628 : Cond.code yX12_busy cX12_busy 6 (some .int) ∈ gtb := mg7 (i := 2) rfl rfl
theorem ww_629 : Cond.instanceMethod yX12_busy ∈ gtb := mg7 (i := 0) rfl rfl
theorem ww_630 : Cond.selects RX12 yX12_busy yX12_busy ∈ gtb := mg7 (i := 1) rfl rfl
theorem ww_631 : Cond.code yX12_byteAt cX12_byteAt 2 (some .int) ∈ gtb := mg6 (i := 155) rfl rfl
theorem ww_632 : Cond.instanceMethod yX12_byteAt ∈ gtb := mg6 (i := 154) rfl rfl
theorem ww_633 : Cond.selects RX12 yX12_byteAt yX12_byteAt ∈ gtb := mg0 (i := 51) rfl rfl
theorem ww_634 : Cond.code yX12_can cX12_can 3 (some .int) ∈ gtb := mg6 (i := 104) rfl rfl
theorem ww_635 : Cond.instanceMethod yX12_can ∈ gtb := mg6 (i := 102) rfl rfl
theorem ww_636 : Cond.selects RX12 yX12_can yX12_can ∈ gtb := mg6 (i := 103) rfl rfl
theorem ww_637 : Cond.code yX12_cast cX12_cast 4 (some .int) ∈ gtb := mg6 (i := 223) rfl rfl
theorem ww_638 : Cond.instanceMethod yX12_cast ∈ gtb := mg6 (i := 221) rfl rfl
theorem ww_639 : Cond.selects RX12 yX12_cast yX12_cast ∈ gtb := mg6 (i := 222) rfl rfl
theorem ww_640 : Cond.fieldLink RX12 62 "FivePlayersModel" "ways" "[J" ∈ gtb := mg5 (i := 157) rfl rfl
theorem ww_641 : Cond.code yX12_findWays cX12_findWays 7 none ∈ gtb := mg7 (i := 82) rfl rfl
theorem ww_642 : Cond.instanceMethod yX12_findWays ∈ gtb := mg7 (i := 81) rfl rfl
theorem ww_643 : Cond.selects RX12 yX12_findWays yX12_findWays ∈ gtb := mg0 (i := 74) rfl rfl
theorem ww_644 : Cond.methodLink RX12 281 yX12_findWays ∈ gtb := mg7 (i := 79) rfl rfl
theorem ww_645 : Cond.code yX12_castings cX12_castings 2 (some .long) ∈ gtb := mg7 (i := 78) rfl rfl
theorem ww_646 : Cond.instanceMethod yX12_castings ∈ gtb := mg7 (i := 76) rfl rfl
theorem ww_647 : Cond.selects RX12 yX12_castings yX12_castings ∈ gtb := mg7 (i := 77) rfl rfl
theorem ww_648 : Cond.code yX12_change cX12_change 4 (some .int) ∈ gtb := mg6 (i := 195) rfl rfl
theorem ww_649 : Cond.instanceMethod yX12_change ∈ gtb := mg6 (i := 193) rfl rfl
theorem ww_650 : Cond.selects RX12 yX12_change yX12_change ∈ gtb := mg6 (i := 194) rfl rfl
theorem ww_651 : Cond.code yX12_check cX12_check 4 (some .int) ∈ gtb := mg7 (i := 169) rfl rfl
theorem ww_652 : Cond.instanceMethod yX12_check ∈ gtb := mg7 (i := 167) rfl rfl
theorem ww_653 : Cond.selects RX12 yX12_check yX12_check ∈ gtb := mg7 (i := 168) rfl rfl
theorem ww_654 : Cond.code yX12_count cX12_count 4 (some .int) ∈ gtb := mg7 (i := 173) rfl rfl
theorem ww_655 : Cond.instanceMethod yX12_count ∈ gtb := mg7 (i := 171) rfl rfl
theorem ww_656 : Cond.selects RX12 yX12_count yX12_count ∈ gtb := mg7 (i := 172) rfl rfl
theorem ww_657 : Cond.code yX12_manyOn cX12_manyOn 5 (some .int) ∈ gtb := mg6 (i := 88) rfl rfl
theorem ww_658 : Cond.instanceMethod yX12_manyOn ∈ gtb := mg6 (i := 87) rfl rfl
theorem ww_659 : Cond.selects RX12 yX12_manyOn yX12_manyOn ∈ gtb := mg0 (i := 42) rfl rfl
theorem ww_660 : Cond.methodLink RX12 141 yX12_manyOn ∈ gtb := mg6 (i := 85) rfl rfl
theorem ww_661 : Cond.code yX12_crowd cX12_crowd 4 (some .int) ∈ gtb := mg7 (i := 26) rfl rfl
theorem ww_662 : Cond.instanceMethod yX12_crowd ∈ gtb := mg7 (i := 24) rfl rfl
theorem ww_663 : Cond.selects RX12 yX12_crowd yX12_crowd ∈ gtb := mg7 (i := 25) rfl rfl
theorem ww_664 : Cond.fieldLink RX12 31 "FivePlayersModel" "acts" "[I" ∈ gtb := mg5 (i := 144) rfl rfl
theorem ww_665 : Cond.fieldLink RX12 172 "FivePlayersModel" "acted" "I" ∈ gtb := mg5 (i := 145) rfl rfl
theorem ww_666 : Cond.code yX12_lays cX12_lays 2 none ∈ gtb := mg6 (i := 169) rfl rfl
theorem ww_667 : Cond.instanceMethod yX12_lays ∈ gtb := mg6 (i := 168) rfl rfl
theorem ww_668 : Cond.selects RX12 yX12_lays yX12_lays ∈ gtb := mg0 (i := 53) rfl rfl
theorem ww_669 : Cond.fieldLink RX12 176 "FivePlayersModel" "waiting" "I" ∈ gtb := mg5 (i := 147) rfl rfl
theorem ww_670 : Cond.fieldLink RX12 34 "FivePlayersModel" "waits" "[I" ∈ gtb := mg5 (i := 146) rfl rfl
theorem ww_671 : Cond.methodLink RX12 182 yX12_lays ∈ gtb := mg6 (i := 166) rfl rfl
theorem ww_672 : Cond.code yX12_denies cX12_denies 1 none ∈ gtb := mg6 (i := 176) rfl rfl
theorem ww_673 : Cond.instanceMethod yX12_denies ∈ gtb := mg6 (i := 175) rfl rfl
theorem ww_674 : Cond.selects RX12 yX12_denies yX12_denies ∈ gtb := mg0 (i := 54) rfl rfl
theorem ww_675 : Cond.code yX12_entriesOf cX12_entriesOf 4 (some .int) ∈ gtb := mg6 (i := 52) rfl rfl
theorem ww_676 : Cond.instanceMethod yX12_entriesOf ∈ gtb := mg6 (i := 51) rfl rfl
theorem ww_677 : Cond.selects RX12 yX12_entriesOf yX12_entriesOf ∈ gtb := mg0 (i := 37) rfl rfl
theorem ww_678 : Cond.code yX12_entry cX12_entry 6 (some .int) ∈ gtb := mg6 (i := 56) rfl rfl
theorem ww_679 : Cond.instanceMethod yX12_entry ∈ gtb := mg6 (i := 54) rfl rfl
theorem ww_680 : Cond.selects RX12 yX12_entry yX12_entry ∈ gtb := mg6 (i := 55) rfl rfl
theorem ww_681 : Cond.code yX12_isEntry cX12_isEntry 2 (some .boolean) ∈ gtb := mg6 (i := 68) rfl rfl
theorem ww_682 : Cond.instanceMethod yX12_isEntry ∈ gtb := mg6 (i := 67) rfl rfl
theorem ww_683 : Cond.selects RX12 yX12_isEntry yX12_isEntry ∈ gtb := mg0 (i := 39) rfl rfl
theorem ww_684 : Cond.methodLink RX12 131 yX12_isEntry ∈ gtb := mg6 (i := 65) rfl rfl
theorem ww_685 : Cond.code yX12_entryIs cX12_entryIs 3 (some .int) ∈ gtb := mg6 (i := 64) rfl rfl
theorem ww_686 : Cond.instanceMethod yX12_entryIs ∈ gtb := mg6 (i := 62) rfl rfl
theorem ww_687 : Cond.selects RX12 yX12_entryIs yX12_entryIs ∈ gtb := mg6 (i := 63) rfl rfl
theorem ww_688 : Cond.constantLong RX12 166 255 ∈ gtb := mg6 (i := 139) rfl rfl
theorem ww_689 : Cond.code yX12_feed cX12_feed 5 (some .int) ∈ gtb := mg6 (i := 138) rfl rfl
theorem ww_690 : Cond.instanceMethod yX12_feed ∈ gtb := mg6 (i := 136) rfl rfl
theorem ww_691 : Cond.selects RX12 yX12_feed yX12_feed ∈ gtb := mg6 (i := 137) rfl rfl
theorem ww_692 : Cond.fieldLink RX12 49 "FivePlayersModel" "members" "[I" ∈ gtb := mg5 (i := 153) rfl rfl
theorem ww_693 : Cond.fieldLink RX12 43 "FivePlayersModel" "groups" "[I" ∈ gtb := mg5 (i := 151) rfl rfl
theorem ww_694 : Cond.fieldLink RX12 46 "FivePlayersModel" "usedBy" "[I" ∈ gtb := mg5 (i := 152) rfl rfl
theorem ww_695 : Cond.code yX12_isIn cX12_isIn 8 (some .boolean) ∈ gtb := mg7 (i := 18) rfl rfl
theorem ww_696 : Cond.instanceMethod yX12_isIn ∈ gtb := mg7 (i := 17) rfl rfl
theorem ww_697 : Cond.selects RX12 yX12_isIn yX12_isIn ∈ gtb := mg0 (i := 66) rfl rfl
theorem ww_698 : Cond.methodLink RX12 246 yX12_isIn ∈ gtb := mg7 (i := 15) rfl rfl
theorem ww_699 : Cond.code yX12_fewestOf cX12_fewestOf 3 (some .int) ∈ gtb := mg7 (i := 14) rfl rfl
theorem ww_700 : Cond.instanceMethod yX12_fewestOf ∈ gtb := mg7 (i := 13) rfl rfl
theorem ww_701 : Cond.selects RX12 yX12_fewestOf yX12_fewestOf ∈ gtb := mg0 (i := 65) rfl rfl
theorem ww_702 : Cond.methodLink RX12 252 yX12_fewestOf ∈ gtb := mg7 (i := 11) rfl rfl
theorem ww_703 : Cond.code yX12_fewest cX12_fewest 1 (some .int) ∈ gtb := mg7 (i := 6) rfl rfl
theorem ww_704 : Cond.instanceMethod yX12_fewest ∈ gtb := mg7 (i := 4) rfl rfl
theorem ww_705 : Cond.selects RX12 yX12_fewest yX12_fewest ∈ gtb := mg7 (i := 5) rfl rfl
theorem ww_706 : Cond.code yX12_group cX12_group 3 (some .int) ∈ gtb := mg7 (i := 22) rfl rfl
theorem ww_707 : Cond.instanceMethod yX12_group ∈ gtb := mg7 (i := 20) rfl rfl
theorem ww_708 : Cond.selects RX12 yX12_group yX12_group ∈ gtb := mg7 (i := 21) rfl rfl
theorem ww_709 : Cond.code yX12_hasOpen cX12_hasOpen 3 (some .boolean) ∈ gtb := mg6 (i := 180) rfl rfl
theorem ww_710 : Cond.instanceMethod yX12_hasOpen ∈ gtb := mg6 (i := 179) rfl rfl
theorem ww_711 : Cond.selects RX12 yX12_hasOpen yX12_hasOpen ∈ gtb := mg0 (i := 55) rfl rfl
theorem ww_712 : Cond.code yX12_whyNot cX12_whyNot 7 (some .int) ∈ gtb := mg6 (i := 76) rfl rfl
theorem ww_713 : Cond.instanceMethod yX12_whyNot ∈ gtb := mg6 (i := 75) rfl rfl
theorem ww_714 : Cond.selects RX12 yX12_whyNot yX12_whyNot ∈ gtb := mg0 (i := 40) rfl rfl
theorem ww_715 : Cond.code yX12_moves cX12_moves 3 none ∈ gtb := mg6 (i := 80) rfl rfl
theorem ww_716 : Cond.instanceMethod yX12_moves ∈ gtb := mg6 (i := 79) rfl rfl
theorem ww_717 : Cond.selects RX12 yX12_moves yX12_moves ∈ gtb := mg0 (i := 41) rfl rfl
theorem ww_718 : Cond.methodLink RX12 134 yX12_whyNot ∈ gtb := mg6 (i := 73) rfl rfl
theorem ww_719 : Cond.methodLink RX12 137 yX12_moves ∈ gtb := mg6 (i := 77) rfl rfl
theorem ww_720 : Cond.code yX12_helps cX12_helps 5 (some .int) ∈ gtb := mg7 (i := 30) rfl rfl
theorem ww_721 : Cond.instanceMethod yX12_helps ∈ gtb := mg7 (i := 28) rfl rfl
theorem ww_722 : Cond.selects RX12 yX12_helps yX12_helps ∈ gtb := mg7 (i := 29) rfl rfl
theorem ww_723 : Cond.fieldLink RX12 13 "FivePlayersModel" "kept" "[I" ∈ gtb := mg5 (i := 136) rfl rfl
theorem ww_724 : Cond.fieldLink RX12 329 "FivePlayersModel" "images" "I" ∈ gtb := mg5 (i := 137) rfl rfl
theorem ww_725 : Cond.code yX12_image cX12_image 2 (some .int) ∈ gtb := mg7 (i := 157) rfl rfl
theorem ww_726 : Cond.instanceMethod yX12_image ∈ gtb := mg7 (i := 155) rfl rfl
theorem ww_727 : Cond.selects RX12 yX12_image yX12_image ∈ gtb := mg7 (i := 156) rfl rfl
theorem ww_728 : Cond.code yX12_isDigit cX12_isDigit 1 (some .boolean) ∈ gtb := mg6 (i := 172) rfl rfl
theorem ww_729 : Cond.static yX12_isDigit ∈ gtb := mg6 (i := 171) rfl rfl
theorem ww_730 : Cond.code yX12_rankOf cX12_rankOf 1 (some .int) ∈ gtb := mg6 (i := 187) rfl rfl
theorem ww_731 : Cond.static yX12_rankOf ∈ gtb := mg6 (i := 186) rfl rfl
theorem ww_732 : Cond.methodLink RX12 179 yX12_rankOf ∈ gtb := mg6 (i := 185) rfl rfl
theorem ww_733 : Cond.code yX12_isTested cX12_isTested 2 (some .boolean) ∈ gtb := mg6 (i := 191) rfl rfl
theorem ww_734 : Cond.instanceMethod yX12_isTested ∈ gtb := mg6 (i := 190) rfl rfl
theorem ww_735 : Cond.selects RX12 yX12_isTested yX12_isTested ∈ gtb := mg0 (i := 57) rfl rfl
theorem ww_736 : Cond.code yX12_know cX12_know 6 (some .int) ∈ gtb := mg6 (i := 96) rfl rfl
theorem ww_737 : Cond.instanceMethod yX12_know ∈ gtb := mg6 (i := 94) rfl rfl
theorem ww_738 : Cond.selects RX12 yX12_know yX12_know ∈ gtb := mg6 (i := 95) rfl rfl
theorem ww_739 : Cond.code yX12_weightOf cX12_weightOf 4 (some .int) ∈ gtb := mg7 (i := 90) rfl rfl
theorem ww_740 : Cond.instanceMethod yX12_weightOf ∈ gtb := mg7 (i := 89) rfl rfl
theorem ww_741 : Cond.selects RX12 yX12_weightOf yX12_weightOf ∈ gtb := mg0 (i := 75) rfl rfl
theorem ww_742 : Cond.methodLink RX12 284 yX12_weightOf ∈ gtb := mg7 (i := 87) rfl rfl
theorem ww_743 : Cond.methodLink RX12 287 yX12_bits ∈ gtb := mg7 (i := 91) rfl rfl
theorem ww_744 : Cond.code yX12_leave cX12_leave 7 (some .int) ∈ gtb := mg7 (i := 86) rfl rfl
theorem ww_745 : Cond.instanceMethod yX12_leave ∈ gtb := mg7 (i := 84) rfl rfl
theorem ww_746 : Cond.selects RX12 yX12_leave yX12_leave ∈ gtb := mg7 (i := 85) rfl rfl
theorem ww_747 : Cond.code yX12_lines cX12_lines 3 (some .int) ∈ gtb := mg6 (i := 6) rfl rfl
theorem ww_748 : Cond.instanceMethod yX12_lines ∈ gtb := mg6 (i := 4) rfl rfl
theorem ww_749 : Cond.selects RX12 yX12_lines yX12_lines ∈ gtb := mg6 (i := 5) rfl rfl
theorem ww_750 : Cond.fieldLink RX12 87 "FivePlayersModel" "carried" "[I" ∈ gtb := mg5 (i := 169) rfl rfl
theorem ww_751 : Cond.code yX12_move cX12_move 7 (some .int) ∈ gtb := mg7 (i := 153) rfl rfl
theorem ww_752 : Cond.instanceMethod yX12_move ∈ gtb := mg7 (i := 151) rfl rfl
theorem ww_753 : Cond.selects RX12 yX12_move yX12_move ∈ gtb := mg7 (i := 152) rfl rfl
theorem ww_754 : Cond.code yX12_ofThree cX12_ofThree 5 (some .int) ∈ gtb := mg6 (i := 165) rfl rfl
theorem ww_755 : Cond.static yX12_ofThree ∈ gtb := mg6 (i := 164) rfl rfl
theorem ww_756 : Cond.methodLink RX12 168 yX12_ofThree ∈ gtb := mg6 (i := 163) rfl rfl
theorem ww_757 : Cond.code yX12_nameOf cX12_nameOf 3 (some .int) ∈ gtb := mg6 (i := 162) rfl rfl
theorem ww_758 : Cond.static yX12_nameOf ∈ gtb := mg6 (i := 161) rfl rfl
theorem ww_759 : Cond.code yX12_never cX12_never 9 (some .int) ∈ gtb := mg7 (i := 97) rfl rfl
theorem ww_760 : Cond.instanceMethod yX12_never ∈ gtb := mg7 (i := 95) rfl rfl
theorem ww_761 : Cond.selects RX12 yX12_never yX12_never ∈ gtb := mg7 (i := 96) rfl rfl
theorem ww_762 : Cond.code yX12_on cX12_on 2 (some .int) ∈ gtb := mg6 (i := 84) rfl rfl
theorem ww_763 : Cond.instanceMethod yX12_on ∈ gtb := mg6 (i := 82) rfl rfl
theorem ww_764 : Cond.selects RX12 yX12_on yX12_on ∈ gtb := mg6 (i := 83) rfl rfl
theorem ww_765 : Cond.code yX12_openMany cX12_openMany 3 (some .int) ∈ gtb := mg6 (i := 159) rfl rfl
theorem ww_766 : Cond.instanceMethod yX12_openMany ∈ gtb := mg6 (i := 158) rfl rfl
theorem ww_767 : Cond.selects RX12 yX12_openMany yX12_openMany ∈ gtb := mg0 (i := 52) rfl rfl
theorem ww_768 : Cond.code yX12_part cX12_part 4 (some .int) ∈ gtb := mg6 (i := 22) rfl rfl
theorem ww_769 : Cond.instanceMethod yX12_part ∈ gtb := mg6 (i := 20) rfl rfl
theorem ww_770 : Cond.selects RX12 yX12_part yX12_part ∈ gtb := mg6 (i := 21) rfl rfl
theorem ww_771 : Cond.methodLink RX12 124 yX12_entriesOf ∈ gtb := mg6 (i := 49) rfl rfl
theorem ww_772 : Cond.code yX12_partIs cX12_partIs 3 (some .int) ∈ gtb := mg6 (i := 48) rfl rfl
theorem ww_773 : Cond.instanceMethod yX12_partIs ∈ gtb := mg6 (i := 46) rfl rfl
theorem ww_774 : Cond.selects RX12 yX12_partIs yX12_partIs ∈ gtb := mg6 (i := 47) rfl rfl
theorem ww_775 : Cond.code yX12_player cX12_player 4 (some .int) ∈ gtb := mg6 (i := 92) rfl rfl
theorem ww_776 : Cond.instanceMethod yX12_player ∈ gtb := mg6 (i := 90) rfl rfl
theorem ww_777 : Cond.selects RX12 yX12_player yX12_player ∈ gtb := mg6 (i := 91) rfl rfl
theorem ww_778 : Cond.code yX12_put cX12_put 4 (some .int) ∈ gtb := mg7 (i := 149) rfl rfl
theorem ww_779 : Cond.instanceMethod yX12_put ∈ gtb := mg7 (i := 147) rfl rfl
theorem ww_780 : Cond.selects RX12 yX12_put yX12_put ∈ gtb := mg7 (i := 148) rfl rfl
theorem ww_781 : Cond.fieldLink RX12 186 "FivePlayersModel" "place" "I" ∈ gtb := mg5 (i := 148) rfl rfl
theorem ww_782 : Cond.methodLink RX12 189 yX12_byteAt ∈ gtb := mg6 (i := 152) rfl rfl
theorem ww_783 : Cond.methodLink RX12 192 yX12_openMany ∈ gtb := mg6 (i := 156) rfl rfl
theorem ww_784 : Cond.methodLink RX12 196 yX12_nameOf ∈ gtb := mg6 (i := 160) rfl rfl
theorem ww_785 : Cond.methodLink RX12 199 yX12_isDigit ∈ gtb := mg6 (i := 170) rfl rfl
theorem ww_786 : Cond.code yX12_readsOne cX12_readsOne 6 (some .boolean) ∈ gtb := mg6 (i := 151) rfl rfl
theorem ww_787 : Cond.instanceMethod yX12_readsOne ∈ gtb := mg6 (i := 150) rfl rfl
theorem ww_788 : Cond.selects RX12 yX12_readsOne yX12_readsOne ∈ gtb := mg0 (i := 50) rfl rfl
theorem ww_789 : Cond.code yX12_settles cX12_settles 2 none ∈ gtb := mg6 (i := 184) rfl rfl
theorem ww_790 : Cond.instanceMethod yX12_settles ∈ gtb := mg6 (i := 183) rfl rfl
theorem ww_791 : Cond.selects RX12 yX12_settles yX12_settles ∈ gtb := mg0 (i := 56) rfl rfl
theorem ww_792 : Cond.methodLink RX12 202 yX12_readsOne ∈ gtb := mg6 (i := 148) rfl rfl
theorem ww_793 : Cond.methodLink RX12 205 yX12_denies ∈ gtb := mg6 (i := 173) rfl rfl
theorem ww_794 : Cond.methodLink RX12 208 yX12_hasOpen ∈ gtb := mg6 (i := 177) rfl rfl
theorem ww_795 : Cond.methodLink RX12 212 yX12_settles ∈ gtb := mg6 (i := 181) rfl rfl
theorem ww_796 : Cond.methodLink RX12 215 yX12_isTested ∈ gtb := mg6 (i := 188) rfl rfl
theorem ww_797 : Cond.code yX12_reads cX12_reads 4 (some .boolean) ∈ gtb := mg6 (i := 147) rfl rfl
theorem ww_798 : Cond.instanceMethod yX12_reads ∈ gtb := mg6 (i := 146) rfl rfl
theorem ww_799 : Cond.selects RX12 yX12_reads yX12_reads ∈ gtb := mg0 (i := 49) rfl rfl
theorem ww_800 : Cond.code yX12_restore cX12_restore 2 (some .int) ∈ gtb := mg7 (i := 161) rfl rfl
theorem ww_801 : Cond.instanceMethod yX12_restore ∈ gtb := mg7 (i := 159) rfl rfl
theorem ww_802 : Cond.selects RX12 yX12_restore yX12_restore ∈ gtb := mg7 (i := 160) rfl rfl
theorem ww_803 : Cond.code yX12_sheet cX12_sheet 5 (some .int) ∈ gtb := mg7 (i := 145) rfl rfl
theorem ww_804 : Cond.instanceMethod yX12_sheet ∈ gtb := mg7 (i := 143) rfl rfl
theorem ww_805 : Cond.selects RX12 yX12_sheet yX12_sheet ∈ gtb := mg7 (i := 144) rfl rfl
theorem ww_806 : Cond.code yX12_shift cX12_shift 4 (some .int) ∈ gtb := mg6 (i := 72) rfl rfl
theorem ww_807 : Cond.instanceMethod yX12_shift ∈ gtb := mg6 (i := 70) rfl rfl
theorem ww_808 : Cond.selects RX12 yX12_shift yX12_shift ∈ gtb := mg6 (i := 71) rfl rfl
theorem ww_809 : Cond.code yX12_take cX12_take 5 (some .int) ∈ gtb := mg7 (i := 74) rfl rfl
theorem ww_810 : Cond.instanceMethod yX12_take ∈ gtb := mg7 (i := 72) rfl rfl
theorem ww_811 : Cond.selects RX12 yX12_take yX12_take ∈ gtb := mg7 (i := 73) rfl rfl
theorem ww_812 : Cond.code yX12_tell cX12_tell 2 (some .int) ∈ gtb := mg7 (i := 165) rfl rfl
theorem ww_813 : Cond.instanceMethod yX12_tell ∈ gtb := mg7 (i := 163) rfl rfl
theorem ww_814 : Cond.selects RX12 yX12_tell yX12_tell ∈ gtb := mg7 (i := 164) rfl rfl
theorem ww_815 : Cond.methodLink RX12 218 yX12_reads ∈ gtb := mg6 (i := 144) rfl rfl
theorem ww_816 : Cond.code yX12_text cX12_text 5 (some .int) ∈ gtb := mg6 (i := 143) rfl rfl
theorem ww_817 : Cond.instanceMethod yX12_text ∈ gtb := mg6 (i := 141) rfl rfl
theorem ww_818 : Cond.selects RX12 yX12_text yX12_text ∈ gtb := mg6 (i := 142) rfl rfl
theorem ww_819 : Cond.code yX12_told cX12_told 2 (some .int) ∈ gtb := mg7 (i := 177) rfl rfl
theorem ww_820 : Cond.instanceMethod yX12_told ∈ gtb := mg7 (i := 175) rfl rfl
theorem ww_821 : Cond.selects RX12 yX12_told yX12_told ∈ gtb := mg7 (i := 176) rfl rfl
theorem ww_822 : Cond.code yX12_trace cX12_trace 2 (some .int) ∈ gtb := mg7 (i := 141) rfl rfl
theorem ww_823 : Cond.instanceMethod yX12_trace ∈ gtb := mg7 (i := 139) rfl rfl
theorem ww_824 : Cond.selects RX12 yX12_trace yX12_trace ∈ gtb := mg7 (i := 140) rfl rfl
theorem ww_825 : Cond.code yX12_two cX12_two 4 (some .int) ∈ gtb := mg6 (i := 203) rfl rfl
theorem ww_826 : Cond.instanceMethod yX12_two ∈ gtb := mg6 (i := 201) rfl rfl
theorem ww_827 : Cond.selects RX12 yX12_two yX12_two ∈ gtb := mg6 (i := 202) rfl rfl
theorem ww_828 : Cond.methodLink RX12 326 yX12_bows ∈ gtb := mg7 (i := 126) rfl rfl
theorem ww_829 : Cond.code yX12_voice cX12_voice 4 (some .int) ∈ gtb := mg7 (i := 101) rfl rfl
theorem ww_830 : Cond.instanceMethod yX12_voice ∈ gtb := mg7 (i := 99) rfl rfl
theorem ww_831 : Cond.selects RX12 yX12_voice yX12_voice ∈ gtb := mg7 (i := 100) rfl rfl
theorem ww_832 : Cond.code yX12_wish cX12_wish 3 (some .int) ∈ gtb := mg6 (i := 127) rfl rfl
theorem ww_833 : Cond.instanceMethod yX12_wish ∈ gtb := mg6 (i := 125) rfl rfl
theorem ww_834 : Cond.selects RX12 yX12_wish yX12_wish ∈ gtb := mg6 (i := 126) rfl rfl
theorem ww_835 : Cond.code yX12_without cX12_without 2 (some .int) ∈ gtb := mg7 (i := 34) rfl rfl
theorem ww_836 : Cond.instanceMethod yX12_without ∈ gtb := mg7 (i := 32) rfl rfl
theorem ww_837 : Cond.selects RX12 yX12_without yX12_without ∈ gtb := mg7 (i := 33) rfl rfl
theorem ww_838 : Cond.classLink RX6 27 RX9 ∈ gtb := mg2 (i := 191) rfl rfl
theorem ww_839 : Cond.classLink RX6 29 RX2 ∈ gtb := mg2 (i := 192) rfl rfl
theorem ww_840 : Cond.classLink RX6 31 RX3 ∈ gtb := mg2 (i := 193) rfl rfl
theorem ww_841 : Cond.classLink RX6 33 RX1 ∈ gtb := mg2 (i := 194) rfl rfl
theorem ww_842 : Cond.classLink RX6 35 RX0 ∈ gtb := mg2 (i := 195) rfl rfl
theorem ww_843 : Cond.code yX6_isOf cX6_isOf 2 (some .boolean) ∈ gtb := mg2 (i := 190) rfl rfl
theorem ww_844 : Cond.initialized RX6 ∈ gtb := mg1 (i := 9) rfl rfl
theorem ww_845 : Cond.methodLink RX6 37 yX7_add ∈ gtb := mg5 (i := 5) rfl rfl
theorem ww_846 : Cond.fieldLink RX6 9 "FivePlayers$Role" "number" "I" ∈ gtb := mg2 (i := 84) rfl rfl
theorem ww_847 : Cond.code yX6_speak cX6_speak 3 (some .int) ∈ gtb := mg5 (i := 4) rfl rfl
theorem ww_848 : Cond.methodLink RX2 7 yX7_add ∈ gtb := mg4 (i := 239) rfl rfl
theorem ww_849 : Cond.code yX2_speak cX2_speak 3 (some .int) ∈ gtb := mg4 (i := 238) rfl rfl
theorem ww_850 : Cond.initialized RX2 ∈ gtb := mg1 (i := 11) rfl rfl
theorem ww_851 : Cond.methodLink RX2 13 yX6_speak ∈ gtb := mg5 (i := 0) rfl rfl
theorem ww_852 : Cond.sameMethod RX6 RX6 "speak" "(ILFivePlayers$Row;)I" ∈ gtb := mg4 (i := 228) rfl rfl
theorem ww_853 : Cond.instanceMethod yX6_speak ∈ gtb := mg4 (i := 226) rfl rfl
theorem ww_854 : Cond.superclass RX2 RX6 ∈ gtb := mg2 (i := 122) rfl rfl
theorem ww_855 : Cond.methodLink RX0 7 yX7_add ∈ gtb := mg4 (i := 232) rfl rfl
theorem ww_856 : Cond.code yX0_speak cX0_speak 3 (some .int) ∈ gtb := mg4 (i := 231) rfl rfl
theorem ww_857 : Cond.initialized RX0 ∈ gtb := mg1 (i := 14) rfl rfl
theorem ww_858 : Cond.methodLink RX0 13 ⟨RX9, "speak", "(ILFivePlayers$Row;)I"⟩ ∈ gtb := mg4 (i := 233) rfl rfl
theorem ww_859 : Cond.sameMethod RX9 RX6 "speak" "(ILFivePlayers$Row;)I" ∈ gtb := mg4 (i := 234) rfl rfl
theorem ww_860 : Cond.superclass RX9 RX6 ∈ gtb := mg2 (i := 110) rfl rfl
theorem ww_861 : Cond.superclass RX0 RX9 ∈ gtb := mg2 (i := 158) rfl rfl
theorem ww_862 : Cond.fieldLink RX6 24 "FivePlayers$Role" "wig" "I" ∈ gtb := mg2 (i := 95) rfl rfl
theorem ww_863 : Cond.code yX6_die cX6_die 3 (some .int) ∈ gtb := mg5 (i := 28) rfl rfl
theorem ww_864 : Cond.methodLink RX3 7 yX7_add ∈ gtb := mg5 (i := 25) rfl rfl
theorem ww_865 : Cond.code yX3_die cX3_die 3 (some .int) ∈ gtb := mg5 (i := 24) rfl rfl
theorem ww_866 : Cond.initialized RX3 ∈ gtb := mg1 (i := 12) rfl rfl
theorem ww_867 : Cond.methodLink RX3 13 ⟨RX9, "die", "(ILFivePlayers$Row;)I"⟩ ∈ gtb := mg5 (i := 26) rfl rfl
theorem ww_868 : Cond.sameMethod RX9 RX6 "die" "(ILFivePlayers$Row;)I" ∈ gtb := mg5 (i := 19) rfl rfl
theorem ww_869 : Cond.instanceMethod yX6_die ∈ gtb := mg5 (i := 27) rfl rfl
theorem ww_870 : Cond.superclass RX3 RX9 ∈ gtb := mg2 (i := 134) rfl rfl
theorem ww_871 : Cond.code yX6_walk cX6_walk 3 (some .int) ∈ gtb := mg5 (i := 38) rfl rfl
theorem ww_872 : Cond.methodLink RX6 43 yX6_speak ∈ gtb := mg5 (i := 39) rfl rfl
theorem ww_873 : Cond.instanceMethod yX0_speak ∈ gtb := mg4 (i := 230) rfl rfl
theorem ww_874 : Cond.selects RX0 yX6_speak yX0_speak ∈ gtb := mg4 (i := 229) rfl rfl
theorem ww_875 : Cond.instanceMethod yX2_speak ∈ gtb := mg4 (i := 237) rfl rfl
theorem ww_876 : Cond.selects RX1 yX6_speak yX2_speak ∈ gtb := mg4 (i := 236) rfl rfl
theorem ww_877 : Cond.selects RX2 yX6_speak yX2_speak ∈ gtb := mg5 (i := 1) rfl rfl
theorem ww_878 : Cond.selects RX3 yX6_speak yX6_speak ∈ gtb := mg5 (i := 2) rfl rfl
theorem ww_879 : Cond.selects RX6 yX6_speak yX6_speak ∈ gtb := mg4 (i := 227) rfl rfl
theorem ww_880 : Cond.selects RX9 yX6_speak yX6_speak ∈ gtb := mg5 (i := 3) rfl rfl
theorem ww_881 : Cond.methodLink RX9 7 yX7_add ∈ gtb := mg5 (i := 16) rfl rfl
theorem ww_882 : Cond.code yX9_walk cX9_walk 3 (some .int) ∈ gtb := mg5 (i := 15) rfl rfl
theorem ww_883 : Cond.initialized RX9 ∈ gtb := mg1 (i := 10) rfl rfl
theorem ww_884 : Cond.methodLink RX9 13 yX6_walk ∈ gtb := mg5 (i := 17) rfl rfl
theorem ww_885 : Cond.sameMethod RX6 RX6 "walk" "(ILFivePlayers$Row;)I" ∈ gtb := mg5 (i := 9) rfl rfl
theorem ww_886 : Cond.instanceMethod yX6_walk ∈ gtb := mg5 (i := 7) rfl rfl
theorem ww_887 : Cond.methodLink RX9 17 ⟨RX9, "die", "(ILFivePlayers$Row;)I"⟩ ∈ gtb := mg5 (i := 18) rfl rfl
theorem ww_888 : Cond.selects RX0 ⟨RX9, "die", "(ILFivePlayers$Row;)I"⟩ yX6_die ∈ gtb := mg5 (i := 21) rfl rfl
theorem ww_889 : Cond.instanceMethod yX3_die ∈ gtb := mg5 (i := 23) rfl rfl
theorem ww_890 : Cond.selects RX3 ⟨RX9, "die", "(ILFivePlayers$Row;)I"⟩ yX3_die ∈ gtb := mg5 (i := 22) rfl rfl
theorem ww_891 : Cond.selects RX9 ⟨RX9, "die", "(ILFivePlayers$Row;)I"⟩ yX6_die ∈ gtb := mg5 (i := 29) rfl rfl
theorem ww_892 : Cond.sameField "FivePlayers$Off" "FivePlayers$Role" "wig" "I" ∈ gtb := mg2 (i := 97) rfl rfl
theorem ww_893 : Cond.fieldLink RX3 17 "FivePlayers$Off" "wig" "I" ∈ gtb := mg2 (i := 96) rfl rfl
theorem ww_894 : Cond.code yX3_walk cX3_walk 3 (some .int) ∈ gtb := mg5 (i := 35) rfl rfl
theorem ww_895 : Cond.methodLink RX3 23 yX9_walk ∈ gtb := mg5 (i := 36) rfl rfl
theorem ww_896 : Cond.sameMethod RX9 RX9 "walk" "(ILFivePlayers$Row;)I" ∈ gtb := mg7 (i := 179) rfl rfl
theorem ww_897 : Cond.instanceMethod yX9_walk ∈ gtb := mg5 (i := 14) rfl rfl
theorem ww_898 : Cond.code yX0_walk cX0_walk 3 (some .int) ∈ gtb := mg5 (i := 12) rfl rfl
theorem ww_899 : Cond.methodLink RX0 17 yX9_walk ∈ gtb := mg5 (i := 13) rfl rfl
theorem ww_900 : Cond.methodLink RX0 20 yX0_speak ∈ gtb := mg5 (i := 30) rfl rfl
theorem ww_901 : Cond.selects RX0 yX0_speak yX0_speak ∈ gtb := mg7 (i := 180) rfl rfl
theorem ww_902 : Cond.code yX6_bow cX6_bow 3 (some .int) ∈ gtb := mg5 (i := 60) rfl rfl
theorem ww_903 : Cond.methodLink RX6 47 yX6_walk ∈ gtb := mg5 (i := 61) rfl rfl
theorem ww_904 : Cond.instanceMethod yX0_walk ∈ gtb := mg5 (i := 11) rfl rfl
theorem ww_905 : Cond.selects RX0 yX6_walk yX0_walk ∈ gtb := mg5 (i := 10) rfl rfl
theorem ww_906 : Cond.selects RX1 yX6_walk yX6_walk ∈ gtb := mg5 (i := 31) rfl rfl
theorem ww_907 : Cond.selects RX2 yX6_walk yX6_walk ∈ gtb := mg5 (i := 32) rfl rfl
theorem ww_908 : Cond.instanceMethod yX3_walk ∈ gtb := mg5 (i := 34) rfl rfl
theorem ww_909 : Cond.selects RX3 yX6_walk yX3_walk ∈ gtb := mg5 (i := 33) rfl rfl
theorem ww_910 : Cond.selects RX6 yX6_walk yX6_walk ∈ gtb := mg5 (i := 8) rfl rfl
theorem ww_911 : Cond.selects RX9 yX6_walk yX9_walk ∈ gtb := mg5 (i := 37) rfl rfl
theorem ww_912 : Cond.methodLink RX6 50 yX6_die ∈ gtb := mg5 (i := 62) rfl rfl
theorem ww_913 : Cond.sameMethod RX6 RX6 "die" "(ILFivePlayers$Row;)I" ∈ gtb := mg7 (i := 181) rfl rfl
theorem ww_914 : Cond.selects RX0 yX6_die yX6_die ∈ gtb := mg7 (i := 182) rfl rfl
theorem ww_915 : Cond.selects RX1 yX6_die yX6_die ∈ gtb := mg7 (i := 183) rfl rfl
theorem ww_916 : Cond.selects RX2 yX6_die yX6_die ∈ gtb := mg7 (i := 184) rfl rfl
theorem ww_917 : Cond.selects RX3 yX6_die yX3_die ∈ gtb := mg7 (i := 185) rfl rfl
theorem ww_918 : Cond.selects RX6 yX6_die yX6_die ∈ gtb := mg7 (i := 186) rfl rfl
theorem ww_919 : Cond.selects RX9 yX6_die yX6_die ∈ gtb := mg7 (i := 187) rfl rfl
theorem ww_920 : Cond.code yX2_bow cX2_bow 3 (some .int) ∈ gtb := mg5 (i := 55) rfl rfl
theorem ww_921 : Cond.methodLink RX2 17 yX6_bow ∈ gtb := mg5 (i := 56) rfl rfl
theorem ww_922 : Cond.sameMethod RX6 RX6 "bow" "(ILFivePlayers$Row;)I" ∈ gtb := mg5 (i := 44) rfl rfl
theorem ww_923 : Cond.instanceMethod yX6_bow ∈ gtb := mg5 (i := 42) rfl rfl
theorem ww_924 : Cond.methodLink RX1 7 yX7_add ∈ gtb := mg5 (i := 49) rfl rfl
theorem ww_925 : Cond.code yX1_bow cX1_bow 3 (some .int) ∈ gtb := mg5 (i := 48) rfl rfl
theorem ww_926 : Cond.initialized RX1 ∈ gtb := mg1 (i := 13) rfl rfl
theorem ww_927 : Cond.methodLink RX1 13 ⟨RX1, "die", "(ILFivePlayers$Row;)I"⟩ ∈ gtb := mg5 (i := 50) rfl rfl
theorem ww_928 : Cond.sameMethod RX1 RX6 "die" "(ILFivePlayers$Row;)I" ∈ gtb := mg5 (i := 51) rfl rfl
theorem ww_929 : Cond.selects RX1 ⟨RX1, "die", "(ILFivePlayers$Row;)I"⟩ yX6_die ∈ gtb := mg5 (i := 52) rfl rfl
theorem ww_930 : Cond.methodLink RX1 19 yX2_bow ∈ gtb := mg5 (i := 53) rfl rfl
theorem ww_931 : Cond.sameMethod RX2 RX2 "bow" "(ILFivePlayers$Row;)I" ∈ gtb := mg7 (i := 188) rfl rfl
theorem ww_932 : Cond.instanceMethod yX2_bow ∈ gtb := mg5 (i := 54) rfl rfl
theorem ww_933 : Cond.superclass RX1 RX2 ∈ gtb := mg2 (i := 146) rfl rfl
theorem ww_934 : Cond.code yX11_voice cX11_voice 5 (some .int) ∈ gtb := mg4 (i := 224) rfl rfl
theorem ww_935 : Cond.instanceMethod yX11_voice ∈ gtb := mg4 (i := 222) rfl rfl
theorem ww_936 : Cond.selects RX11 yX11_voice yX11_voice ∈ gtb := mg4 (i := 223) rfl rfl
theorem ww_937 : Cond.methodLink RX11 309 yX6_speak ∈ gtb := mg4 (i := 225) rfl rfl
theorem ww_938 : Cond.methodLink RX11 313 yX6_walk ∈ gtb := mg5 (i := 6) rfl rfl
theorem ww_939 : Cond.methodLink RX11 316 yX6_die ∈ gtb := mg5 (i := 40) rfl rfl
theorem ww_940 : Cond.methodLink RX11 319 yX6_bow ∈ gtb := mg5 (i := 41) rfl rfl
theorem ww_941 : Cond.selects RX0 yX6_bow yX6_bow ∈ gtb := mg5 (i := 45) rfl rfl
theorem ww_942 : Cond.instanceMethod yX1_bow ∈ gtb := mg5 (i := 47) rfl rfl
theorem ww_943 : Cond.selects RX1 yX6_bow yX1_bow ∈ gtb := mg5 (i := 46) rfl rfl
theorem ww_944 : Cond.selects RX2 yX6_bow yX2_bow ∈ gtb := mg5 (i := 57) rfl rfl
theorem ww_945 : Cond.selects RX3 yX6_bow yX6_bow ∈ gtb := mg5 (i := 58) rfl rfl
theorem ww_946 : Cond.selects RX6 yX6_bow yX6_bow ∈ gtb := mg5 (i := 43) rfl rfl
theorem ww_947 : Cond.selects RX9 yX6_bow yX6_bow ∈ gtb := mg5 (i := 59) rfl rfl
theorem ww_948 : Cond.methodLink RX10 116 yX10_isOff ∈ gtb := mg3 (i := 236) rfl rfl
theorem ww_949 : Cond.code yX10_areApart cX10_areApart 3 (some .boolean) ∈ gtb := mg3 (i := 235) rfl rfl
theorem ww_950 : Cond.instanceMethod yX10_areApart ∈ gtb := mg3 (i := 234) rfl rfl
theorem ww_951 : Cond.selects RX10 yX10_areApart yX10_areApart ∈ gtb := mg0 (i := 12) rfl rfl
theorem ww_952 : Cond.methodLink RX10 126 yX6_isOf ∈ gtb := mg4 (i := 0) rfl rfl
theorem ww_953 : Cond.sameMethod RX6 RX6 "isOf" "(I)Z" ∈ gtb := mg2 (i := 184) rfl rfl
theorem ww_954 : Cond.instanceMethod yX6_isOf ∈ gtb := mg2 (i := 182) rfl rfl
theorem ww_955 : Cond.selects RX0 yX6_isOf yX6_isOf ∈ gtb := mg2 (i := 185) rfl rfl
theorem ww_956 : Cond.selects RX1 yX6_isOf yX6_isOf ∈ gtb := mg2 (i := 186) rfl rfl
theorem ww_957 : Cond.selects RX2 yX6_isOf yX6_isOf ∈ gtb := mg2 (i := 187) rfl rfl
theorem ww_958 : Cond.selects RX3 yX6_isOf yX6_isOf ∈ gtb := mg2 (i := 188) rfl rfl
theorem ww_959 : Cond.selects RX6 yX6_isOf yX6_isOf ∈ gtb := mg2 (i := 183) rfl rfl
theorem ww_960 : Cond.selects RX9 yX6_isOf yX6_isOf ∈ gtb := mg2 (i := 189) rfl rfl
theorem ww_961 : Cond.methodLink RX10 109 yX10_areApart ∈ gtb := mg3 (i := 232) rfl rfl
theorem ww_962 : Cond.methodLink RX10 113 yX10_meetingLine ∈ gtb := mg4 (i := 1) rfl rfl
theorem ww_963 : Cond.fieldLink RX10 28 "FivePlayers$Stage" "barLine" "I" ∈ gtb := mg1 (i := 153) rfl rfl
theorem ww_964 : Cond.methodLink RX10 120 yX10_nearLine ∈ gtb := mg4 (i := 8) rfl rfl
theorem ww_965 : Cond.code yX10_howBarred cX10_howBarred 3 (some .int) ∈ gtb := mg3 (i := 231) rfl rfl
theorem ww_966 : Cond.instanceMethod yX10_howBarred ∈ gtb := mg3 (i := 229) rfl rfl
theorem ww_967 : Cond.selects RX10 yX10_howBarred yX10_howBarred ∈ gtb := mg3 (i := 230) rfl rfl
theorem ww_968 : Cond.fieldLink RX10 159 "FivePlayers$Play" "parts" "I" ∈ gtb := mg1 (i := 66) rfl rfl
theorem ww_969 : Cond.fieldLink RX10 165 "FivePlayers$Play" "told" "[I" ∈ gtb := mg1 (i := 79) rfl rfl
theorem ww_970 : Cond.fieldLink RX10 25 "FivePlayers$Stage" "barOther" "I" ∈ gtb := mg1 (i := 151) rfl rfl
theorem ww_971 : Cond.methodLink RX10 162 yX10_howBarred ∈ gtb := mg4 (i := 53) rfl rfl
theorem ww_972 : Cond.code yX10_findBarAbove cX10_findBarAbove 5 (some .int) ∈ gtb := mg4 (i := 52) rfl rfl
theorem ww_973 : Cond.instanceMethod yX10_findBarAbove ∈ gtb := mg4 (i := 51) rfl rfl
theorem ww_974 : Cond.selects RX10 yX10_findBarAbove yX10_findBarAbove ∈ gtb := mg0 (i := 19) rfl rfl
theorem ww_975 : Cond.fieldLink RX10 21 "FivePlayers$Stage" "barPart" "I" ∈ gtb := mg1 (i := 149) rfl rfl
theorem ww_976 : Cond.methodLink RX10 168 yX10_isAble ∈ gtb := mg4 (i := 48) rfl rfl
theorem ww_977 : Cond.methodLink RX10 171 yX10_findBarAbove ∈ gtb := mg4 (i := 49) rfl rfl
theorem ww_978 : Cond.code yX10_findBar cX10_findBar 4 (some .int) ∈ gtb := mg4 (i := 47) rfl rfl
theorem ww_979 : Cond.instanceMethod yX10_findBar ∈ gtb := mg4 (i := 45) rfl rfl
theorem ww_980 : Cond.selects RX10 yX10_findBar yX10_findBar ∈ gtb := mg4 (i := 46) rfl rfl
theorem ww_981 : Cond.fieldLink RX10 18 "FivePlayers$Stage" "barred" "[I" ∈ gtb := mg1 (i := 147) rfl rfl
theorem ww_982 : Cond.methodLink RX10 153 yJ7_fill_53178 ∈ gtb := mg4 (i := 75) rfl rfl
theorem ww_983 : Cond.code yX10_findBarred cX10_findBarred 3 none ∈ gtb := mg4 (i := 74) rfl rfl
theorem ww_984 : Cond.instanceMethod yX10_findBarred ∈ gtb := mg4 (i := 72) rfl rfl
theorem ww_985 : Cond.selects RX10 yX10_findBarred yX10_findBarred ∈ gtb := mg4 (i := 73) rfl rfl
theorem ww_986 : Cond.code yX11_as cX11_as 3 (some .int) ∈ gtb := mg2 (i := 175) rfl rfl
theorem ww_987 : Cond.instanceMethod yX11_as ∈ gtb := mg2 (i := 173) rfl rfl
theorem ww_988 : Cond.selects RX11 yX11_as yX11_as ∈ gtb := mg2 (i := 174) rfl rfl
theorem ww_989 : Cond.methodLink RX11 102 yX6_isOf ∈ gtb := mg2 (i := 181) rfl rfl
theorem ww_990 : Cond.methodLink RX11 248 yX10_findBar ∈ gtb := mg4 (i := 44) rfl rfl
theorem ww_991 : Cond.fieldLink RX11 251 "FivePlayers$Stage" "barPart" "I" ∈ gtb := mg1 (i := 150) rfl rfl
theorem ww_992 : Cond.fieldLink RX11 254 "FivePlayers$Stage" "barOther" "I" ∈ gtb := mg1 (i := 152) rfl rfl
theorem ww_993 : Cond.fieldLink RX11 222 "FivePlayers$Stage" "barLine" "I" ∈ gtb := mg1 (i := 154) rfl rfl
theorem ww_994 : Cond.code yX11_bars cX11_bars 3 (some .int) ∈ gtb := mg4 (i := 43) rfl rfl
theorem ww_995 : Cond.instanceMethod yX11_bars ∈ gtb := mg4 (i := 41) rfl rfl
theorem ww_996 : Cond.selects RX11 yX11_bars yX11_bars ∈ gtb := mg4 (i := 42) rfl rfl
theorem ww_997 : Cond.methodLink RX11 219 yX10_howBarred ∈ gtb := mg3 (i := 228) rfl rfl
theorem ww_998 : Cond.code yX11_two cX11_two 5 (some .int) ∈ gtb := mg3 (i := 227) rfl rfl
theorem ww_999 : Cond.instanceMethod yX11_two ∈ gtb := mg3 (i := 225) rfl rfl
theorem ww_1000 : Cond.selects RX11 yX11_two yX11_two ∈ gtb := mg3 (i := 226) rfl rfl
theorem ww_1001 : Cond.fieldLink RX8 42 "FivePlayers$Solver" "sum" "I" ∈ gtb := mg1 (i := 192) rfl rfl
theorem ww_1002 : Cond.methodLink RX8 116 yX8_gather ∈ gtb := mg4 (i := 120) rfl rfl
theorem ww_1003 : Cond.methodLink RX8 59 yX10_findBarred ∈ gtb := mg4 (i := 71) rfl rfl
theorem ww_1004 : Cond.methodLink RX8 123 arraycopyName ∈ gtb := mg4 (i := 141) rfl rfl
theorem ww_1005 : Cond.methodLink RX8 129 yX8_addToTeam ∈ gtb := mg4 (i := 142) rfl rfl
theorem ww_1006 : Cond.methodLink RX8 133 yX8_dealOut ∈ gtb := mg4 (i := 157) rfl rfl
theorem ww_1007 : Cond.code yX8_findBest cX8_findBest 6 (some .boolean) ∈ gtb := mg4 (i := 115) rfl rfl
theorem ww_1008 : Cond.instanceMethod yX8_findBest ∈ gtb := mg4 (i := 113) rfl rfl
theorem ww_1009 : Cond.selects RX8 yX8_findBest yX8_findBest ∈ gtb := mg4 (i := 114) rfl rfl
theorem ww_1010 : Cond.methodLink RX11 272 yX4_isSet ∈ gtb := mg4 (i := 108) rfl rfl
theorem ww_1011 : Cond.fieldLink RX11 30 "FivePlayers" "solver" "LFivePlayers$Solver;" ∈ gtb := mg2 (i := 19) rfl rfl
theorem ww_1012 : Cond.methodLink RX11 275 yX8_findBest ∈ gtb := mg4 (i := 112) rfl rfl
theorem ww_1013 : Cond.fieldLink RX11 281 "FivePlayers$Solver" "playerOf" "[I" ∈ gtb := mg1 (i := 191) rfl rfl
theorem ww_1014 : Cond.fieldLink RX11 278 "FivePlayers$Solver" "sum" "I" ∈ gtb := mg1 (i := 193) rfl rfl
theorem ww_1015 : Cond.code yX11_best cX11_best 4 (some .int) ∈ gtb := mg4 (i := 107) rfl rfl
theorem ww_1016 : Cond.instanceMethod yX11_best ∈ gtb := mg4 (i := 105) rfl rfl
theorem ww_1017 : Cond.selects RX11 yX11_best yX11_best ∈ gtb := mg4 (i := 106) rfl rfl
theorem ww_1018 : Cond.methodLink RX8 157 yX8_countWithOneMore ∈ gtb := mg4 (i := 181) rfl rfl
theorem ww_1019 : Cond.code yX8_countCastings cX8_countCastings 4 none ∈ gtb := mg4 (i := 180) rfl rfl
theorem ww_1020 : Cond.instanceMethod yX8_countCastings ∈ gtb := mg4 (i := 178) rfl rfl
theorem ww_1021 : Cond.selects RX8 yX8_countCastings yX8_countCastings ∈ gtb := mg4 (i := 179) rfl rfl
theorem ww_1022 : Cond.methodLink RX11 284 yX8_countCastings ∈ gtb := mg4 (i := 177) rfl rfl
theorem ww_1023 : Cond.fieldLink RX11 287 "FivePlayers$Solver" "castingsOf" "[I" ∈ gtb := mg1 (i := 189) rfl rfl
theorem ww_1024 : Cond.methodLink RX11 290 yX4_allParts ∈ gtb := mg4 (i := 185) rfl rfl
theorem ww_1025 : Cond.code yX11_castings cX11_castings 2 (some .long) ∈ gtb := mg4 (i := 176) rfl rfl
theorem ww_1026 : Cond.instanceMethod yX11_castings ∈ gtb := mg4 (i := 174) rfl rfl
theorem ww_1027 : Cond.selects RX11 yX11_castings yX11_castings ∈ gtb := mg4 (i := 175) rfl rfl
theorem ww_1028 : Cond.methodLink RX11 339 yX4_allPlayers ∈ gtb := mg5 (i := 109) rfl rfl
theorem ww_1029 : Cond.code yX11_check cX11_check 4 (some .int) ∈ gtb := mg5 (i := 108) rfl rfl
theorem ww_1030 : Cond.instanceMethod yX11_check ∈ gtb := mg5 (i := 106) rfl rfl
theorem ww_1031 : Cond.selects RX11 yX11_check yX11_check ∈ gtb := mg5 (i := 107) rfl rfl
theorem ww_1032 : Cond.methodLink RX11 293 yX8_leftOut ∈ gtb := mg4 (i := 190) rfl rfl
theorem ww_1033 : Cond.methodLink RX11 296 yX4_weightOfSet ∈ gtb := mg4 (i := 208) rfl rfl
theorem ww_1034 : Cond.code yX11_leave cX11_leave 4 (some .int) ∈ gtb := mg4 (i := 189) rfl rfl
theorem ww_1035 : Cond.instanceMethod yX11_leave ∈ gtb := mg4 (i := 187) rfl rfl
theorem ww_1036 : Cond.selects RX11 yX11_leave yX11_leave ∈ gtb := mg4 (i := 188) rfl rfl
theorem ww_1037 : Cond.methodLink RX11 299 yX8_findShares ∈ gtb := mg4 (i := 217) rfl rfl
theorem ww_1038 : Cond.fieldLink RX11 306 "FivePlayers$Solver" "inEach" "I" ∈ gtb := mg1 (i := 197) rfl rfl
theorem ww_1039 : Cond.fieldLink RX11 303 "FivePlayers$Solver" "inSome" "I" ∈ gtb := mg1 (i := 195) rfl rfl
theorem ww_1040 : Cond.code yX11_never cX11_never 5 (some .int) ∈ gtb := mg4 (i := 216) rfl rfl
theorem ww_1041 : Cond.instanceMethod yX11_never ∈ gtb := mg4 (i := 214) rfl rfl
theorem ww_1042 : Cond.selects RX11 yX11_never yX11_never ∈ gtb := mg4 (i := 215) rfl rfl
theorem ww_1043 : Cond.code yX11_take cX11_take 3 (some .int) ∈ gtb := mg4 (i := 172) rfl rfl
theorem ww_1044 : Cond.instanceMethod yX11_take ∈ gtb := mg4 (i := 170) rfl rfl
theorem ww_1045 : Cond.selects RX11 yX11_take yX11_take ∈ gtb := mg4 (i := 171) rfl rfl
theorem ww_1046 : Cond.methodLink RX4 71 arraycopyName ∈ gtb := mg5 (i := 95) rfl rfl
theorem ww_1047 : Cond.fieldLink RX4 60 "FivePlayers$Play" "tape" "LFivePlayers$Row;" ∈ gtb := mg1 (i := 98) rfl rfl
theorem ww_1048 : Cond.methodLink RX4 77 yX7_become ∈ gtb := mg5 (i := 96) rfl rfl
theorem ww_1049 : Cond.fieldLink RX4 64 "FivePlayers$Play" "waiting" "LFivePlayers$Row;" ∈ gtb := mg1 (i := 100) rfl rfl
theorem ww_1050 : Cond.code yX4_become cX4_become 3 none ∈ gtb := mg5 (i := 94) rfl rfl
theorem ww_1051 : Cond.instanceMethod yX4_become ∈ gtb := mg5 (i := 92) rfl rfl
theorem ww_1052 : Cond.selects RX4 yX4_become yX4_become ∈ gtb := mg5 (i := 93) rfl rfl
theorem ww_1053 : Cond.code yX4_addPart cX4_addPart 2 (some .int) ∈ gtb := mg2 (i := 171) rfl rfl
theorem ww_1054 : Cond.instanceMethod yX4_addPart ∈ gtb := mg2 (i := 169) rfl rfl
theorem ww_1055 : Cond.selects RX4 yX4_addPart yX4_addPart ∈ gtb := mg2 (i := 170) rfl rfl
theorem ww_1056 : Cond.fieldLink RX11 41 "FivePlayers" "kept" "LFivePlayers$Play;" ∈ gtb := mg2 (i := 21) rfl rfl
theorem ww_1057 : Cond.methodLink RX11 334 yX4_become ∈ gtb := mg5 (i := 91) rfl rfl
theorem ww_1058 : Cond.fieldLink RX11 64 "FivePlayers" "images" "I" ∈ gtb := mg2 (i := 26) rfl rfl
theorem ww_1059 : Cond.code yX11_image cX11_image 1 (some .int) ∈ gtb := mg5 (i := 90) rfl rfl
theorem ww_1060 : Cond.instanceMethod yX11_image ∈ gtb := mg5 (i := 88) rfl rfl
theorem ww_1061 : Cond.selects RX11 yX11_image yX11_image ∈ gtb := mg5 (i := 89) rfl rfl
theorem ww_1062 : Cond.code yX11_restore cX11_restore 1 (some .int) ∈ gtb := mg5 (i := 100) rfl rfl
theorem ww_1063 : Cond.instanceMethod yX11_restore ∈ gtb := mg5 (i := 98) rfl rfl
theorem ww_1064 : Cond.selects RX11 yX11_restore yX11_restore ∈ gtb := mg5 (i := 99) rfl rfl
theorem ww_1065 : Cond.code yX5_namesOf cX5_namesOf 1 (some (.object "java/lang/String")) ∈ gtb := mg3 (i := 89) rfl rfl
theorem ww_1066 : Cond.static yX5_namesOf ∈ gtb := mg3 (i := 88) rfl rfl
theorem ww_1067 : Cond.code yJ1_canEncode_9a6ad cJ1_canEncode_9a6ad 1 (some .boolean) ∈ gtb := mg3 (i := 140) rfl rfl
theorem ww_1068 : Cond.initialized RJ1 ∈ gtb := mg1 (i := 16) rfl rfl
theorem ww_1069 : Cond.static yJ1_canEncode_9a6ad ∈ gtb := mg3 (i := 139) rfl rfl
theorem ww_1070 : Cond.code yJ1_indexOfChar_4cfef cJ1_indexOfChar_4cfef 6 (some .int) ∈ gtb := mg3 (i := 145) rfl rfl
theorem ww_1071 : Cond.static yJ1_indexOfChar_4cfef ∈ gtb := mg3 (i := 144) rfl rfl
theorem ww_1072 : Cond.methodLink RJ1 88 yJ1_canEncode_9a6ad ∈ gtb := mg3 (i := 138) rfl rfl
theorem ww_1073 : Cond.methodLink RJ1 92 Lib.Math.max.name ∈ gtb := mg3 (i := 141) rfl rfl
theorem ww_1074 : Cond.methodLink RJ1 38 Lib.Math.min.name ∈ gtb := mg3 (i := 142) rfl rfl
theorem ww_1075 : Cond.methodLink RJ1 95 yJ1_indexOfChar_4cfef ∈ gtb := mg3 (i := 143) rfl rfl
theorem ww_1076 : Cond.code yJ1_indexOf_4cfef cJ1_indexOf_4cfef 4 (some .int) ∈ gtb := mg3 (i := 137) rfl rfl
theorem ww_1077 : Cond.static yJ1_indexOf_4cfef ∈ gtb := mg3 (i := 136) rfl rfl
theorem ww_1078 : Cond.fieldLink RJ0 38 "java/lang/String" "COMPACT_STRINGS" "Z" ∈ gtb := mg3 (i := 125) rfl rfl
theorem ww_1079 : Cond.fieldLink RJ0 15 "java/lang/String" "coder" "B" ∈ gtb := mg7 (i := 197) rfl rfl
theorem ww_1080 : Cond.code yJ0_coder_7d493 cJ0_coder_7d493 1 (some .byte) ∈ gtb := mg3 (i := 134) rfl rfl
theorem ww_1081 : Cond.initialized RJ0 ∈ gtb := mg1 (i := 15) rfl rfl
theorem ww_1082 : Cond.instanceMethod yJ0_coder_7d493 ∈ gtb := mg3 (i := 132) rfl rfl
theorem ww_1083 : Cond.selects RJ0 yJ0_coder_7d493 yJ0_coder_7d493 ∈ gtb := mg3 (i := 133) rfl rfl
theorem ww_1084 : Cond.code yJ0_isLatin1_aae02 cJ0_isLatin1_aae02 1 (some .boolean) ∈ gtb := mg3 (i := 124) rfl rfl
theorem ww_1085 : Cond.instanceMethod yJ0_isLatin1_aae02 ∈ gtb := mg3 (i := 122) rfl rfl
theorem ww_1086 : Cond.selects RJ0 yJ0_isLatin1_aae02 yJ0_isLatin1_aae02 ∈ gtb := mg3 (i := 123) rfl rfl
theorem ww_1087 : Cond.fieldLink RJ0 9 "java/lang/String" "value" "[B" ∈ gtb := mg7 (i := 198) rfl rfl
theorem ww_1088 : Cond.methodLink RJ0 335 yJ0_coder_7d493 ∈ gtb := mg3 (i := 131) rfl rfl
theorem ww_1089 : Cond.code yJ0_length_8abf5 cJ0_length_8abf5 1 (some .int) ∈ gtb := mg3 (i := 130) rfl rfl
theorem ww_1090 : Cond.instanceMethod yJ0_length_8abf5 ∈ gtb := mg3 (i := 128) rfl rfl
theorem ww_1091 : Cond.selects RJ0 yJ0_length_8abf5 yJ0_length_8abf5 ∈ gtb := mg3 (i := 129) rfl rfl
theorem ww_1092 : Cond.methodLink RJ0 492 yJ0_isLatin1_aae02 ∈ gtb := mg3 (i := 121) rfl rfl
theorem ww_1093 : Cond.methodLink RJ0 505 yJ0_length_8abf5 ∈ gtb := mg3 (i := 127) rfl rfl
theorem ww_1094 : Cond.methodLink RJ0 637 yJ1_indexOf_4cfef ∈ gtb := mg3 (i := 135) rfl rfl
theorem ww_1095 : Cond.code yJ0_indexOf_7cf53 cJ0_indexOf_7cf53 3 (some .int) ∈ gtb := mg3 (i := 120) rfl rfl
theorem ww_1096 : Cond.instanceMethod yJ0_indexOf_7cf53 ∈ gtb := mg3 (i := 118) rfl rfl
theorem ww_1097 : Cond.selects RJ0 yJ0_indexOf_7cf53 yJ0_indexOf_7cf53 ∈ gtb := mg3 (i := 119) rfl rfl
theorem ww_1098 : Cond.methodLink RJ0 633 yJ0_indexOf_7cf53 ∈ gtb := mg3 (i := 117) rfl rfl
theorem ww_1099 : Cond.code yJ0_indexOf_0f7a4 cJ0_indexOf_0f7a4 2 (some .int) ∈ gtb := mg3 (i := 116) rfl rfl
theorem ww_1100 : Cond.instanceMethod yJ0_indexOf_0f7a4 ∈ gtb := mg3 (i := 114) rfl rfl
theorem ww_1101 : Cond.selects RJ0 yJ0_indexOf_0f7a4 yJ0_indexOf_0f7a4 ∈ gtb := mg3 (i := 115) rfl rfl
theorem ww_1102 : Cond.methodLink RX8 75 yX8_settle ∈ gtb := mg4 (i := 79) rfl rfl
theorem ww_1103 : Cond.fieldLink RX8 15 "FivePlayers$Solver" "inGroup" "[I" ∈ gtb := mg1 (i := 182) rfl rfl
theorem ww_1104 : Cond.fieldLink RX8 9 "FivePlayers$Solver" "groupOf" "[I" ∈ gtb := mg1 (i := 180) rfl rfl
theorem ww_1105 : Cond.code yX8_settle cX8_settle 6 (some .boolean) ∈ gtb := mg4 (i := 82) rfl rfl
theorem ww_1106 : Cond.instanceMethod yX8_settle ∈ gtb := mg4 (i := 81) rfl rfl
theorem ww_1107 : Cond.selects RX8 yX8_settle yX8_settle ∈ gtb := mg0 (i := 20) rfl rfl
theorem ww_1108 : Cond.methodLink RX8 69 yJ7_fill_53178 ∈ gtb := mg4 (i := 78) rfl rfl
theorem ww_1109 : Cond.code yX8_fewestGroups cX8_fewestGroups 3 (some .int) ∈ gtb := mg4 (i := 70) rfl rfl
theorem ww_1110 : Cond.instanceMethod yX8_fewestGroups ∈ gtb := mg4 (i := 68) rfl rfl
theorem ww_1111 : Cond.selects RX8 yX8_fewestGroups yX8_fewestGroups ∈ gtb := mg4 (i := 69) rfl rfl
theorem ww_1112 : Cond.methodLink RX11 260 yX8_fewestGroups ∈ gtb := mg4 (i := 67) rfl rfl
theorem ww_1113 : Cond.code yX11_fewest cX11_fewest 1 (some .int) ∈ gtb := mg4 (i := 66) rfl rfl
theorem ww_1114 : Cond.instanceMethod yX11_fewest ∈ gtb := mg4 (i := 64) rfl rfl
theorem ww_1115 : Cond.selects RX11 yX11_fewest yX11_fewest ∈ gtb := mg4 (i := 65) rfl rfl
theorem ww_1116 : Cond.fieldLink RX11 263 "FivePlayers$Solver" "groupOf" "[I" ∈ gtb := mg1 (i := 181) rfl rfl
theorem ww_1117 : Cond.code yX11_group cX11_group 2 (some .int) ∈ gtb := mg4 (i := 86) rfl rfl
theorem ww_1118 : Cond.instanceMethod yX11_group ∈ gtb := mg4 (i := 84) rfl rfl
theorem ww_1119 : Cond.selects RX11 yX11_group yX11_group ∈ gtb := mg4 (i := 85) rfl rfl
theorem ww_1120 : Cond.code yX11_helps cX11_helps 5 (some .int) ∈ gtb := mg4 (i := 99) rfl rfl
theorem ww_1121 : Cond.instanceMethod yX11_helps ∈ gtb := mg4 (i := 97) rfl rfl
theorem ww_1122 : Cond.selects RX11 yX11_helps yX11_helps ∈ gtb := mg4 (i := 98) rfl rfl
theorem ww_1123 : Cond.code yX11_without cX11_without 2 (some .int) ∈ gtb := mg4 (i := 103) rfl rfl
theorem ww_1124 : Cond.instanceMethod yX11_without ∈ gtb := mg4 (i := 101) rfl rfl
theorem ww_1125 : Cond.selects RX11 yX11_without yX11_without ∈ gtb := mg4 (i := 102) rfl rfl
theorem ww_1126 : Cond.methodLink RX5 44 yX5_readLevel ∈ gtb := mg3 (i := 93) rfl rfl
theorem ww_1127 : Cond.methodLink RX5 58 yX5_readUnit ∈ gtb := mg3 (i := 97) rfl rfl
theorem ww_1128 : Cond.methodLink RX5 65 yX5_levelOf ∈ gtb := mg3 (i := 199) rfl rfl
theorem ww_1129 : Cond.code yX5_readLevel cX5_readLevel 6 none ∈ gtb := mg3 (i := 96) rfl rfl
theorem ww_1130 : Cond.instanceMethod yX5_readLevel ∈ gtb := mg3 (i := 95) rfl rfl
theorem ww_1131 : Cond.selects RX5 yX5_readLevel yX5_readLevel ∈ gtb := mg0 (i := 6) rfl rfl
theorem ww_1132 : Cond.fieldLink RX5 25 "FivePlayers$Reader" "names" "Ljava/lang/String;" ∈ gtb := mg1 (i := 239) rfl rfl
theorem ww_1133 : Cond.methodLink RX5 79 yJ0_indexOf_0f7a4 ∈ gtb := mg3 (i := 113) rfl rfl
theorem ww_1134 : Cond.methodLink RX5 76 yX5_readNumber ∈ gtb := mg3 (i := 108) rfl rfl
theorem ww_1135 : Cond.methodLink RX5 84 yX5_readClosing ∈ gtb := mg3 (i := 195) rfl rfl
theorem ww_1136 : Cond.code yX5_readUnit cX5_readUnit 3 none ∈ gtb := mg3 (i := 100) rfl rfl
theorem ww_1137 : Cond.instanceMethod yX5_readUnit ∈ gtb := mg3 (i := 99) rfl rfl
theorem ww_1138 : Cond.selects RX5 yX5_readUnit yX5_readUnit ∈ gtb := mg0 (i := 7) rfl rfl
theorem ww_1139 : Cond.methodLink RX5 37 yX5_namesOf ∈ gtb := mg3 (i := 87) rfl rfl
theorem ww_1140 : Cond.code yX5_reads cX5_reads 3 (some .boolean) ∈ gtb := mg3 (i := 86) rfl rfl
theorem ww_1141 : Cond.instanceMethod yX5_reads ∈ gtb := mg3 (i := 84) rfl rfl
theorem ww_1142 : Cond.selects RX5 yX5_reads yX5_reads ∈ gtb := mg3 (i := 85) rfl rfl
theorem ww_1143 : Cond.fieldLink RX11 37 "FivePlayers" "reader" "LFivePlayers$Reader;" ∈ gtb := mg2 (i := 20) rfl rfl
theorem ww_1144 : Cond.methodLink RX11 195 yX5_reads ∈ gtb := mg3 (i := 83) rfl rfl
theorem ww_1145 : Cond.fieldLink RX11 202 "FivePlayers$Play" "texts" "[LFivePlayers$Row;" ∈ gtb := mg1 (i := 104) rfl rfl
theorem ww_1146 : Cond.fieldLink RX11 205 "FivePlayers$Reader" "code" "LFivePlayers$Row;" ∈ gtb := mg1 (i := 237) rfl rfl
theorem ww_1147 : Cond.methodLink RX11 208 yX7_become ∈ gtb := mg3 (i := 202) rfl rfl
theorem ww_1148 : Cond.fieldLink RX11 199 "FivePlayers$Reader" "place" "I" ∈ gtb := mg2 (i := 1) rfl rfl
theorem ww_1149 : Cond.code yX11_text cX11_text 3 (some .int) ∈ gtb := mg3 (i := 82) rfl rfl
theorem ww_1150 : Cond.instanceMethod yX11_text ∈ gtb := mg3 (i := 80) rfl rfl
theorem ww_1151 : Cond.selects RX11 yX11_text yX11_text ∈ gtb := mg3 (i := 81) rfl rfl
