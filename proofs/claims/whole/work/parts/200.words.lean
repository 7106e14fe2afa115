theorem ww_1152 : Cond.instanceMethod Lib.objectInit ∈ gtb := mg1 (i := 29) rfl rfl
theorem ww_1153 : Cond.code Lib.objectInit ⟨#[0xb1]⟩ 1 none ∈ gtb := mg1 (i := 30) rfl rfl
theorem ww_1154 : Cond.fieldLink RX6 15 "FivePlayers$Role" "kind" "I" ∈ gtb := mg2 (i := 85) rfl rfl
theorem ww_1155 : Cond.fieldLink RX6 18 "FivePlayers$Role" "need" "I" ∈ gtb := mg2 (i := 89) rfl rfl
theorem ww_1156 : Cond.fieldLink RX6 21 "FivePlayers$Role" "age" "I" ∈ gtb := mg2 (i := 92) rfl rfl
theorem ww_1157 : Cond.code yX6_init cX6_init 4 none ∈ gtb := mg2 (i := 82) rfl rfl
theorem ww_1158 : Cond.methodLink RX6 3 Lib.objectInit ∈ gtb := mg2 (i := 83) rfl rfl
theorem ww_1159 : Cond.code yX9_init cX9_init 4 none ∈ gtb := mg2 (i := 79) rfl rfl
theorem ww_1160 : Cond.methodLink RX9 1 yX6_init ∈ gtb := mg2 (i := 80) rfl rfl
theorem ww_1161 : Cond.instanceMethod yX6_init ∈ gtb := mg2 (i := 81) rfl rfl
theorem ww_1162 : Cond.code yX2_init cX2_init 4 none ∈ gtb := mg2 (i := 115) rfl rfl
theorem ww_1163 : Cond.methodLink RX2 1 yX6_init ∈ gtb := mg2 (i := 116) rfl rfl
theorem ww_1164 : Cond.code yX3_init cX3_init 4 none ∈ gtb := mg2 (i := 127) rfl rfl
theorem ww_1165 : Cond.methodLink RX3 1 yX9_init ∈ gtb := mg2 (i := 128) rfl rfl
theorem ww_1166 : Cond.instanceMethod yX9_init ∈ gtb := mg2 (i := 78) rfl rfl
theorem ww_1167 : Cond.code yX1_init cX1_init 4 none ∈ gtb := mg2 (i := 139) rfl rfl
theorem ww_1168 : Cond.methodLink RX1 1 yX2_init ∈ gtb := mg2 (i := 140) rfl rfl
theorem ww_1169 : Cond.instanceMethod yX2_init ∈ gtb := mg2 (i := 114) rfl rfl
theorem ww_1170 : Cond.code yX0_init cX0_init 4 none ∈ gtb := mg2 (i := 151) rfl rfl
theorem ww_1171 : Cond.methodLink RX0 1 yX9_init ∈ gtb := mg2 (i := 152) rfl rfl
theorem ww_1172 : Cond.code yX11_newRole cX11_newRole 4 (some (.object "FivePlayers$Role")) ∈ gtb := mg2 (i := 74) rfl rfl
theorem ww_1173 : Cond.classLink RX11 349 RX9 ∈ gtb := mg2 (i := 75) rfl rfl
theorem ww_1174 : Cond.instantiable RX9 5 ∈ gtb := mg2 (i := 76) rfl rfl
theorem ww_1175 : Cond.methodLink RX11 351 yX9_init ∈ gtb := mg2 (i := 77) rfl rfl
theorem ww_1176 : Cond.classLink RX11 354 RX2 ∈ gtb := mg2 (i := 111) rfl rfl
theorem ww_1177 : Cond.instantiable RX2 5 ∈ gtb := mg2 (i := 112) rfl rfl
theorem ww_1178 : Cond.methodLink RX11 356 yX2_init ∈ gtb := mg2 (i := 113) rfl rfl
theorem ww_1179 : Cond.classLink RX11 357 RX3 ∈ gtb := mg2 (i := 123) rfl rfl
theorem ww_1180 : Cond.instantiable RX3 5 ∈ gtb := mg2 (i := 124) rfl rfl
theorem ww_1181 : Cond.methodLink RX11 359 yX3_init ∈ gtb := mg2 (i := 125) rfl rfl
theorem ww_1182 : Cond.instanceMethod yX3_init ∈ gtb := mg2 (i := 126) rfl rfl
theorem ww_1183 : Cond.classLink RX11 360 RX1 ∈ gtb := mg2 (i := 135) rfl rfl
theorem ww_1184 : Cond.instantiable RX1 5 ∈ gtb := mg2 (i := 136) rfl rfl
theorem ww_1185 : Cond.methodLink RX11 362 yX1_init ∈ gtb := mg2 (i := 137) rfl rfl
theorem ww_1186 : Cond.instanceMethod yX1_init ∈ gtb := mg2 (i := 138) rfl rfl
theorem ww_1187 : Cond.classLink RX11 363 RX0 ∈ gtb := mg2 (i := 147) rfl rfl
theorem ww_1188 : Cond.instantiable RX0 5 ∈ gtb := mg2 (i := 148) rfl rfl
theorem ww_1189 : Cond.methodLink RX11 365 yX0_init ∈ gtb := mg2 (i := 149) rfl rfl
theorem ww_1190 : Cond.instanceMethod yX0_init ∈ gtb := mg2 (i := 150) rfl rfl
theorem ww_1191 : Cond.classLink RX11 103 RX6 ∈ gtb := mg2 (i := 159) rfl rfl
theorem ww_1192 : Cond.instantiable RX6 5 ∈ gtb := mg2 (i := 160) rfl rfl
theorem ww_1193 : Cond.methodLink RX11 366 yX6_init ∈ gtb := mg2 (i := 161) rfl rfl
theorem ww_1194 : Cond.code yX11_part cX11_part 3 (some .int) ∈ gtb := mg2 (i := 67) rfl rfl
theorem ww_1195 : Cond.instanceMethod yX11_newRole ∈ gtb := mg2 (i := 73) rfl rfl
theorem ww_1196 : Cond.selects RX11 yX11_newRole yX11_newRole ∈ gtb := mg0 (i := 1) rfl rfl
theorem ww_1197 : Cond.methodLink RX11 86 yX11_newRole ∈ gtb := mg2 (i := 71) rfl rfl
theorem ww_1198 : Cond.methodLink RX11 90 yX4_addPart ∈ gtb := mg2 (i := 168) rfl rfl
