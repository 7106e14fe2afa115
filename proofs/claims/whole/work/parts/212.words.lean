theorem ww_1199 : Cond.arrayClass .int ∈ gtb := mg1 (i := 59) rfl rfl
theorem ww_1200 : Cond.arrayClass .long ∈ gtb := mg6 (i := 2) rfl rfl
theorem ww_1201 : Cond.arrayClass .boolean ∈ gtb := mg6 (i := 1) rfl rfl
theorem ww_1202 : Cond.methodLink RX7 1 Lib.objectInit ∈ gtb := mg1 (i := 44) rfl rfl
theorem ww_1203 : Cond.code yX7_init cX7_init 2 none ∈ gtb := mg1 (i := 43) rfl rfl
theorem ww_1204 : Cond.methodLink RX4 3 Lib.objectInit ∈ gtb := mg1 (i := 36) rfl rfl
theorem ww_1205 : Cond.classLink RX4 24 RX6 ∈ gtb := mg1 (i := 37) rfl rfl
theorem ww_1206 : Cond.classLink RX4 55 RX7 ∈ gtb := mg1 (i := 39) rfl rfl
theorem ww_1207 : Cond.instantiable RX7 2 ∈ gtb := mg1 (i := 40) rfl rfl
theorem ww_1208 : Cond.instanceMethod yX7_init ∈ gtb := mg1 (i := 42) rfl rfl
theorem ww_1209 : Cond.methodLink RX4 57 yX7_init ∈ gtb := mg1 (i := 41) rfl rfl
theorem ww_1210 : Cond.code yX4_init cX4_init 2 none ∈ gtb := mg1 (i := 35) rfl rfl
theorem ww_1211 : Cond.methodLink RX10 3 Lib.objectInit ∈ gtb := mg1 (i := 143) rfl rfl
theorem ww_1212 : Cond.code yX10_init cX10_init 2 none ∈ gtb := mg1 (i := 142) rfl rfl
theorem ww_1213 : Cond.methodLink RX8 3 Lib.objectInit ∈ gtb := mg1 (i := 175) rfl rfl
theorem ww_1214 : Cond.classLink RX8 25 "[[I" ∈ gtb := mg1 (i := 176) rfl rfl
theorem ww_1215 : Cond.code yX8_init cX8_init 3 none ∈ gtb := mg1 (i := 174) rfl rfl
theorem ww_1216 : Cond.methodLink RX5 3 Lib.objectInit ∈ gtb := mg1 (i := 232) rfl rfl
theorem ww_1217 : Cond.classLink RX5 9 RX7 ∈ gtb := mg1 (i := 233) rfl rfl
theorem ww_1218 : Cond.methodLink RX5 11 yX7_init ∈ gtb := mg1 (i := 234) rfl rfl
theorem ww_1219 : Cond.code yX5_init cX5_init 1 none ∈ gtb := mg1 (i := 231) rfl rfl
theorem ww_1220 : Cond.methodLink RX12 1 Lib.objectInit ∈ gtb := mg5 (i := 134) rfl rfl
theorem ww_1221 : Cond.code yX12_init cX12_init 1 none ∈ gtb := mg5 (i := 133) rfl rfl
theorem ww_1222 : Cond.methodLink RX11 3 Lib.objectInit ∈ gtb := mg1 (i := 28) rfl rfl
theorem ww_1223 : Cond.classLink RX11 9 RX4 ∈ gtb := mg1 (i := 31) rfl rfl
theorem ww_1224 : Cond.instantiable RX4 16 ∈ gtb := mg1 (i := 32) rfl rfl
theorem ww_1225 : Cond.instanceMethod yX4_init ∈ gtb := mg1 (i := 34) rfl rfl
theorem ww_1226 : Cond.methodLink RX11 11 yX4_init ∈ gtb := mg1 (i := 33) rfl rfl
theorem ww_1227 : Cond.classLink RX11 16 RX10 ∈ gtb := mg1 (i := 138) rfl rfl
theorem ww_1228 : Cond.instantiable RX10 7 ∈ gtb := mg1 (i := 139) rfl rfl
theorem ww_1229 : Cond.instanceMethod yX10_init ∈ gtb := mg1 (i := 141) rfl rfl
theorem ww_1230 : Cond.methodLink RX11 18 yX10_init ∈ gtb := mg1 (i := 140) rfl rfl
theorem ww_1231 : Cond.classLink RX11 25 RX8 ∈ gtb := mg1 (i := 170) rfl rfl
theorem ww_1232 : Cond.instantiable RX8 14 ∈ gtb := mg1 (i := 171) rfl rfl
theorem ww_1233 : Cond.instanceMethod yX8_init ∈ gtb := mg1 (i := 173) rfl rfl
theorem ww_1234 : Cond.methodLink RX11 27 yX8_init ∈ gtb := mg1 (i := 172) rfl rfl
theorem ww_1235 : Cond.classLink RX11 34 RX5 ∈ gtb := mg1 (i := 227) rfl rfl
theorem ww_1236 : Cond.instantiable RX5 5 ∈ gtb := mg1 (i := 228) rfl rfl
theorem ww_1237 : Cond.instanceMethod yX5_init ∈ gtb := mg1 (i := 230) rfl rfl
theorem ww_1238 : Cond.classLink RX11 44 RX7 ∈ gtb := mg2 (i := 15) rfl rfl
theorem ww_1239 : Cond.methodLink RX11 46 yX7_init ∈ gtb := mg2 (i := 16) rfl rfl
theorem ww_1240 : Cond.code yX11_init cX11_init 2 none ∈ gtb := mg1 (i := 27) rfl rfl
