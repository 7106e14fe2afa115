theorem ww_1067 : Cond.code yJ1_canEncode_9a6ad cJ1_canEncode_9a6ad 1 (some .boolean) ∈ gtb := mg3 (i := 140) rfl rfl
theorem ww_1068 : Cond.initialized RJ1 ∈ gtb := mg1 (i := 16) rfl rfl
theorem ww_1069 : Cond.static yJ1_canEncode_9a6ad ∈ gtb := mg3 (i := 139) rfl rfl
theorem ww_1070 : Cond.code yJ1_indexOfChar_4cfef cJ1_indexOfChar_4cfef 6 (some .int) ∈ gtb := mg3 (i := 145) rfl rfl
theorem ww_1071 : Cond.static yJ1_indexOfChar_4cfef ∈ gtb := mg3 (i := 144) rfl rfl
theorem ww_1072 : Cond.methodLink RJ1 88 yJ1_canEncode_9a6ad ∈ gtb := mg3 (i := 138) rfl rfl
theorem ww_1073 : Cond.methodLink RJ1 92 Lib.Math.max.name ∈ gtb := mg3 (i := 141) rfl rfl
theorem ww_1074 : Cond.methodLink RJ1 38 Lib.Math.min.name ∈ gtb := mg3 (i := 142) rfl rfl
theorem ww_1075 : Cond.methodLink RJ1 95 yJ1_indexOfChar_4cfef ∈ gtb := mg3 (i := 143) rfl rfl
theorem ww_1076 : Cond.code yJ1_indexOf_4cfef cJ1_indexOf_4cfef 4 (some .int) ∈ gtb := mg3 (i := 137) rfl rfl
theorem ww_1077 : Cond.static yJ1_indexOf_4cfef ∈ gtb := mg3 (i := 136) rfl rfl
theorem ww_1078 : Cond.fieldLink RJ0 38 "java/lang/String" "COMPACT_STRINGS" "Z" ∈ gtb := mg3 (i := 125) rfl rfl
theorem ww_1079 : Cond.fieldLink RJ0 15 "java/lang/String" "coder" "B" ∈ gtb := mg7 (i := 197) rfl rfl
theorem ww_1080 : Cond.code yJ0_coder_7d493 cJ0_coder_7d493 1 (some .byte) ∈ gtb := mg3 (i := 134) rfl rfl
theorem ww_1081 : Cond.initialized RJ0 ∈ gtb := mg1 (i := 15) rfl rfl
theorem ww_1082 : Cond.instanceMethod yJ0_coder_7d493 ∈ gtb := mg3 (i := 132) rfl rfl
theorem ww_1083 : Cond.selects RJ0 yJ0_coder_7d493 yJ0_coder_7d493 ∈ gtb := mg3 (i := 133) rfl rfl
theorem ww_1084 : Cond.code yJ0_isLatin1_aae02 cJ0_isLatin1_aae02 1 (some .boolean) ∈ gtb := mg3 (i := 124) rfl rfl
theorem ww_1085 : Cond.instanceMethod yJ0_isLatin1_aae02 ∈ gtb := mg3 (i := 122) rfl rfl
theorem ww_1086 : Cond.selects RJ0 yJ0_isLatin1_aae02 yJ0_isLatin1_aae02 ∈ gtb := mg3 (i := 123) rfl rfl
theorem ww_1087 : Cond.fieldLink RJ0 9 "java/lang/String" "value" "[B" ∈ gtb := mg7 (i := 198) rfl rfl
theorem ww_1088 : Cond.methodLink RJ0 335 yJ0_coder_7d493 ∈ gtb := mg3 (i := 131) rfl rfl
theorem ww_1089 : Cond.code yJ0_length_8abf5 cJ0_length_8abf5 1 (some .int) ∈ gtb := mg3 (i := 130) rfl rfl
theorem ww_1090 : Cond.instanceMethod yJ0_length_8abf5 ∈ gtb := mg3 (i := 128) rfl rfl
theorem ww_1091 : Cond.selects RJ0 yJ0_length_8abf5 yJ0_length_8abf5 ∈ gtb := mg3 (i := 129) rfl rfl
theorem ww_1092 : Cond.methodLink RJ0 492 yJ0_isLatin1_aae02 ∈ gtb := mg3 (i := 121) rfl rfl
theorem ww_1093 : Cond.methodLink RJ0 505 yJ0_length_8abf5 ∈ gtb := mg3 (i := 127) rfl rfl
theorem ww_1094 : Cond.methodLink RJ0 637 yJ1_indexOf_4cfef ∈ gtb := mg3 (i := 135) rfl rfl
theorem ww_1095 : Cond.code yJ0_indexOf_7cf53 cJ0_indexOf_7cf53 3 (some .int) ∈ gtb := mg3 (i := 120) rfl rfl
theorem ww_1096 : Cond.instanceMethod yJ0_indexOf_7cf53 ∈ gtb := mg3 (i := 118) rfl rfl
theorem ww_1097 : Cond.selects RJ0 yJ0_indexOf_7cf53 yJ0_indexOf_7cf53 ∈ gtb := mg3 (i := 119) rfl rfl
theorem ww_1098 : Cond.methodLink RJ0 633 yJ0_indexOf_7cf53 ∈ gtb := mg3 (i := 117) rfl rfl
theorem ww_1099 : Cond.code yJ0_indexOf_0f7a4 cJ0_indexOf_0f7a4 2 (some .int) ∈ gtb := mg3 (i := 116) rfl rfl
theorem ww_1100 : Cond.instanceMethod yJ0_indexOf_0f7a4 ∈ gtb := mg3 (i := 114) rfl rfl
theorem ww_1101 : Cond.selects RJ0 yJ0_indexOf_0f7a4 yJ0_indexOf_0f7a4 ∈ gtb := mg3 (i := 115) rfl rfl
theorem ww_1102 : Cond.methodLink RX8 75 yX8_settle ∈ gtb := mg4 (i := 79) rfl rfl
theorem ww_1103 : Cond.fieldLink RX8 15 "FivePlayers$Solver" "inGroup" "[I" ∈ gtb := mg1 (i := 182) rfl rfl
theorem ww_1104 : Cond.fieldLink RX8 9 "FivePlayers$Solver" "groupOf" "[I" ∈ gtb := mg1 (i := 180) rfl rfl
theorem ww_1105 : Cond.code yX8_settle cX8_settle 6 (some .boolean) ∈ gtb := mg4 (i := 82) rfl rfl
theorem ww_1106 : Cond.instanceMethod yX8_settle ∈ gtb := mg4 (i := 81) rfl rfl
theorem ww_1107 : Cond.selects RX8 yX8_settle yX8_settle ∈ gtb := mg0 (i := 20) rfl rfl
theorem ww_1108 : Cond.methodLink RX8 69 yJ7_fill_53178 ∈ gtb := mg4 (i := 78) rfl rfl
theorem ww_1109 : Cond.code yX8_fewestGroups cX8_fewestGroups 3 (some .int) ∈ gtb := mg4 (i := 70) rfl rfl
theorem ww_1110 : Cond.instanceMethod yX8_fewestGroups ∈ gtb := mg4 (i := 68) rfl rfl
theorem ww_1111 : Cond.selects RX8 yX8_fewestGroups yX8_fewestGroups ∈ gtb := mg4 (i := 69) rfl rfl
theorem ww_1112 : Cond.methodLink RX11 260 yX8_fewestGroups ∈ gtb := mg4 (i := 67) rfl rfl
theorem ww_1113 : Cond.code yX11_fewest cX11_fewest 1 (some .int) ∈ gtb := mg4 (i := 66) rfl rfl
theorem ww_1114 : Cond.instanceMethod yX11_fewest ∈ gtb := mg4 (i := 64) rfl rfl
theorem ww_1115 : Cond.selects RX11 yX11_fewest yX11_fewest ∈ gtb := mg4 (i := 65) rfl rfl
theorem ww_1116 : Cond.fieldLink RX11 263 "FivePlayers$Solver" "groupOf" "[I" ∈ gtb := mg1 (i := 181) rfl rfl
theorem ww_1117 : Cond.code yX11_group cX11_group 2 (some .int) ∈ gtb := mg4 (i := 86) rfl rfl
theorem ww_1118 : Cond.instanceMethod yX11_group ∈ gtb := mg4 (i := 84) rfl rfl
theorem ww_1119 : Cond.selects RX11 yX11_group yX11_group ∈ gtb := mg4 (i := 85) rfl rfl
theorem ww_1120 : Cond.code yX11_helps cX11_helps 5 (some .int) ∈ gtb := mg4 (i := 99) rfl rfl
theorem ww_1121 : Cond.instanceMethod yX11_helps ∈ gtb := mg4 (i := 97) rfl rfl
theorem ww_1122 : Cond.selects RX11 yX11_helps yX11_helps ∈ gtb := mg4 (i := 98) rfl rfl
theorem ww_1123 : Cond.code yX11_without cX11_without 2 (some .int) ∈ gtb := mg4 (i := 103) rfl rfl
theorem ww_1124 : Cond.instanceMethod yX11_without ∈ gtb := mg4 (i := 101) rfl rfl
theorem ww_1125 : Cond.selects RX11 yX11_without yX11_without ∈ gtb := mg4 (i := 102) rfl rfl
theorem ww_1126 : Cond.methodLink RX5 44 yX5_readLevel ∈ gtb := mg3 (i := 93) rfl rfl
theorem ww_1127 : Cond.methodLink RX5 58 yX5_readUnit ∈ gtb := mg3 (i := 97) rfl rfl
theorem ww_1128 : Cond.methodLink RX5 65 yX5_levelOf ∈ gtb := mg3 (i := 199) rfl rfl
theorem ww_1129 : Cond.code yX5_readLevel cX5_readLevel 6 none ∈ gtb := mg3 (i := 96) rfl rfl
theorem ww_1130 : Cond.instanceMethod yX5_readLevel ∈ gtb := mg3 (i := 95) rfl rfl
theorem ww_1131 : Cond.selects RX5 yX5_readLevel yX5_readLevel ∈ gtb := mg0 (i := 6) rfl rfl
theorem ww_1132 : Cond.fieldLink RX5 25 "FivePlayers$Reader" "names" "Ljava/lang/String;" ∈ gtb := mg1 (i := 239) rfl rfl
theorem ww_1133 : Cond.methodLink RX5 79 yJ0_indexOf_0f7a4 ∈ gtb := mg3 (i := 113) rfl rfl
theorem ww_1134 : Cond.methodLink RX5 76 yX5_readNumber ∈ gtb := mg3 (i := 108) rfl rfl
theorem ww_1135 : Cond.methodLink RX5 84 yX5_readClosing ∈ gtb := mg3 (i := 195) rfl rfl
theorem ww_1136 : Cond.code yX5_readUnit cX5_readUnit 3 none ∈ gtb := mg3 (i := 100) rfl rfl
theorem ww_1137 : Cond.instanceMethod yX5_readUnit ∈ gtb := mg3 (i := 99) rfl rfl
theorem ww_1138 : Cond.selects RX5 yX5_readUnit yX5_readUnit ∈ gtb := mg0 (i := 7) rfl rfl
theorem ww_1139 : Cond.methodLink RX5 37 yX5_namesOf ∈ gtb := mg3 (i := 87) rfl rfl
theorem ww_1140 : Cond.code yX5_reads cX5_reads 3 (some .boolean) ∈ gtb := mg3 (i := 86) rfl rfl
theorem ww_1141 : Cond.instanceMethod yX5_reads ∈ gtb := mg3 (i := 84) rfl rfl
theorem ww_1142 : Cond.selects RX5 yX5_reads yX5_reads ∈ gtb := mg3 (i := 85) rfl rfl
theorem ww_1143 : Cond.fieldLink RX11 37 "FivePlayers" "reader" "LFivePlayers$Reader;" ∈ gtb := mg2 (i := 20) rfl rfl
theorem ww_1144 : Cond.methodLink RX11 195 yX5_reads ∈ gtb := mg3 (i := 83) rfl rfl
theorem ww_1145 : Cond.fieldLink RX11 202 "FivePlayers$Play" "texts" "[LFivePlayers$Row;" ∈ gtb := mg1 (i := 104) rfl rfl
theorem ww_1146 : Cond.fieldLink RX11 205 "FivePlayers$Reader" "code" "LFivePlayers$Row;" ∈ gtb := mg1 (i := 237) rfl rfl
theorem ww_1147 : Cond.methodLink RX11 208 yX7_become ∈ gtb := mg3 (i := 202) rfl rfl
theorem ww_1148 : Cond.fieldLink RX11 199 "FivePlayers$Reader" "place" "I" ∈ gtb := mg2 (i := 1) rfl rfl
theorem ww_1149 : Cond.code yX11_text cX11_text 3 (some .int) ∈ gtb := mg3 (i := 82) rfl rfl
theorem ww_1150 : Cond.instanceMethod yX11_text ∈ gtb := mg3 (i := 80) rfl rfl
theorem ww_1151 : Cond.selects RX11 yX11_text yX11_text ∈ gtb := mg3 (i := 81) rfl rfl
