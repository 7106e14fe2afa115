theorem dX12_nearAt_154 : decode cX12_nearAt 154 = .ok (.iload 7, 2) := by decide +kernel
theorem dX12_nearAt_156 : decode cX12_nearAt 156 = .ok (.iconst 2, 1) := by decide +kernel
theorem dX12_nearAt_157 : decode cX12_nearAt 157 = .ok (.idiv, 1) := by decide +kernel
theorem dX12_nearAt_158 : decode cX12_nearAt 158 = .ok (.goto 5, 3) := by decide +kernel
theorem dX12_nearAt_161 : decode cX12_nearAt 161 = .ok (.iload 7, 2) := by decide +kernel
theorem dX12_nearAt_163 : decode cX12_nearAt 163 = .ok (.istore 7, 2) := by decide +kernel
theorem dX12_nearAt_165 : decode cX12_nearAt 165 = .ok (.aload_n 0, 1) := by decide +kernel
theorem dX12_nearAt_166 : decode cX12_nearAt 166 = .ok (.iload 5, 2) := by decide +kernel
theorem dX12_nearAt_168 : decode cX12_nearAt 168 = .ok (.iconst 1, 1) := by decide +kernel
theorem dX12_nearAt_169 : decode cX12_nearAt 169 = .ok (.invokevirtual 99, 3) := by decide +kernel
theorem dX12_nearAt_172 : decode cX12_nearAt 172 = .ok (.aload_n 0, 1) := by decide +kernel
theorem dX12_nearAt_173 : decode cX12_nearAt 173 = .ok (.iload 4, 2) := by decide +kernel
theorem dX12_nearAt_175 : decode cX12_nearAt 175 = .ok (.iconst 2, 1) := by decide +kernel
theorem dX12_nearAt_176 : decode cX12_nearAt 176 = .ok (.invokevirtual 99, 3) := by decide +kernel
theorem dX12_nearAt_179 : decode cX12_nearAt 179 = .ok (.isub, 1) := by decide +kernel
theorem dX12_nearAt_180 : decode cX12_nearAt 180 = .ok (.iconst 1, 1) := by decide +kernel
theorem dX12_nearAt_181 : decode cX12_nearAt 181 = .ok (.isub, 1) := by decide +kernel
theorem dX12_nearAt_182 : decode cX12_nearAt 182 = .ok (.iload 7, 2) := by decide +kernel
theorem dX12_nearAt_184 : decode cX12_nearAt 184 = .ok (.if_icmp .ge 7, 3) := by decide +kernel
theorem dX12_nearAt_187 : decode cX12_nearAt 187 = .ok (.iconst 1, 1) := by decide +kernel
theorem dX12_nearAt_188 : decode cX12_nearAt 188 = .ok (.goto 4, 3) := by decide +kernel
theorem dX12_nearAt_191 : decode cX12_nearAt 191 = .ok (.iconst 0, 1) := by decide +kernel
theorem dX12_nearAt_192 : decode cX12_nearAt 192 = .ok (.istore 8, 2) := by decide +kernel
theorem dX12_nearAt_194 : decode cX12_nearAt 194 = .ok (.iload 8, 2) := by decide +kernel
theorem dX12_nearAt_196 : decode cX12_nearAt 196 = .ok (.ifCond .eq 28, 3) := by decide +kernel
theorem dX12_nearAt_199 : decode cX12_nearAt 199 = .ok (.iload_n 3, 1) := by decide +kernel
theorem dX12_nearAt_200 : decode cX12_nearAt 200 = .ok (.ifCond .lt 14, 3) := by decide +kernel
theorem dX12_nearAt_203 : decode cX12_nearAt 203 = .ok (.aload_n 0, 1) := by decide +kernel
theorem dX12_nearAt_204 : decode cX12_nearAt 204 = .ok (.iload 5, 2) := by decide +kernel
theorem dX12_nearAt_206 : decode cX12_nearAt 206 = .ok (.iconst 1, 1) := by decide +kernel
theorem dX12_nearAt_207 : decode cX12_nearAt 207 = .ok (.invokevirtual 99, 3) := by decide +kernel
theorem dX12_nearAt_210 : decode cX12_nearAt 210 = .ok (.iload_n 3, 1) := by decide +kernel
theorem dX12_nearAt_211 : decode cX12_nearAt 211 = .ok (.if_icmp .ge 13, 3) := by decide +kernel
theorem dX12_nearAt_214 : decode cX12_nearAt 214 = .ok (.aload_n 0, 1) := by decide +kernel
theorem dX12_nearAt_215 : decode cX12_nearAt 215 = .ok (.iload 5, 2) := by decide +kernel
theorem dX12_nearAt_217 : decode cX12_nearAt 217 = .ok (.iconst 1, 1) := by decide +kernel
theorem dX12_nearAt_218 : decode cX12_nearAt 218 = .ok (.invokevirtual 99, 3) := by decide +kernel
theorem dX12_nearAt_221 : decode cX12_nearAt 221 = .ok (.goto 4, 3) := by decide +kernel
theorem dX12_nearAt_224 : decode cX12_nearAt 224 = .ok (.iload_n 3, 1) := by decide +kernel
theorem dX12_nearAt_225 : decode cX12_nearAt 225 = .ok (.istore_n 3, 1) := by decide +kernel
theorem dX12_nearAt_226 : decode cX12_nearAt 226 = .ok (.iinc 5 1, 3) := by decide +kernel
theorem dX12_nearAt_229 : decode cX12_nearAt 229 = .ok (.goto (-210), 3) := by decide +kernel
theorem dX12_nearAt_232 : decode cX12_nearAt 232 = .ok (.iinc 4 1, 3) := by decide +kernel
theorem dX12_nearAt_235 : decode cX12_nearAt 235 = .ok (.goto (-230), 3) := by decide +kernel
theorem dX12_nearAt_238 : decode cX12_nearAt 238 = .ok (.iload_n 3, 1) := by decide +kernel
theorem dX12_nearAt_239 : decode cX12_nearAt 239 = .ok (.ireturn, 1) := by decide +kernel
theorem dX12_layTwo_0 : decode cX12_layTwo 0 = .ok (.aload_n 0, 1) := by decide +kernel
theorem dX12_layTwo_1 : decode cX12_layTwo 1 = .ok (.iload_n 1, 1) := by decide +kernel
theorem dX12_layTwo_2 : decode cX12_layTwo 2 = .ok (.iconst 0, 1) := by decide +kernel
theorem dX12_layTwo_3 : decode cX12_layTwo 3 = .ok (.invokevirtual 114, 3) := by decide +kernel
theorem dX12_layTwo_6 : decode cX12_layTwo 6 = .ok (.iconst 3, 1) := by decide +kernel
theorem dX12_layTwo_7 : decode cX12_layTwo 7 = .ok (.if_icmp .ne 16, 3) := by decide +kernel
theorem dX12_layTwo_10 : decode cX12_layTwo 10 = .ok (.aload_n 0, 1) := by decide +kernel
theorem dX12_layTwo_11 : decode cX12_layTwo 11 = .ok (.iload_n 2, 1) := by decide +kernel
theorem dX12_layTwo_12 : decode cX12_layTwo 12 = .ok (.iconst 0, 1) := by decide +kernel
theorem dX12_layTwo_13 : decode cX12_layTwo 13 = .ok (.invokevirtual 114, 3) := by decide +kernel
theorem dX12_layTwo_16 : decode cX12_layTwo 16 = .ok (.iconst 1, 1) := by decide +kernel
theorem dX12_layTwo_17 : decode cX12_layTwo 17 = .ok (.invokestatic 117, 3) := by decide +kernel
theorem dX12_layTwo_20 : decode cX12_layTwo 20 = .ok (.ifCond .eq 26, 3) := by decide +kernel
theorem dX12_layTwo_23 : decode cX12_layTwo 23 = .ok (.aload_n 0, 1) := by decide +kernel
theorem dX12_layTwo_24 : decode cX12_layTwo 24 = .ok (.iload_n 2, 1) := by decide +kernel
theorem dX12_layTwo_25 : decode cX12_layTwo 25 = .ok (.iconst 0, 1) := by decide +kernel
theorem dX12_layTwo_26 : decode cX12_layTwo 26 = .ok (.invokevirtual 114, 3) := by decide +kernel
theorem dX12_layTwo_29 : decode cX12_layTwo 29 = .ok (.iconst 3, 1) := by decide +kernel
theorem dX12_layTwo_30 : decode cX12_layTwo 30 = .ok (.if_icmp .ne 20, 3) := by decide +kernel
theorem dX12_layTwo_33 : decode cX12_layTwo 33 = .ok (.aload_n 0, 1) := by decide +kernel
theorem dX12_layTwo_34 : decode cX12_layTwo 34 = .ok (.iload_n 1, 1) := by decide +kernel
theorem dX12_layTwo_35 : decode cX12_layTwo 35 = .ok (.iconst 0, 1) := by decide +kernel
theorem dX12_layTwo_36 : decode cX12_layTwo 36 = .ok (.invokevirtual 114, 3) := by decide +kernel
theorem dX12_layTwo_39 : decode cX12_layTwo 39 = .ok (.iconst 1, 1) := by decide +kernel
theorem dX12_layTwo_40 : decode cX12_layTwo 40 = .ok (.invokestatic 117, 3) := by decide +kernel
theorem dX12_layTwo_43 : decode cX12_layTwo 43 = .ok (.ifCond .ne 7, 3) := by decide +kernel
theorem dX12_layTwo_46 : decode cX12_layTwo 46 = .ok (.iconst 1, 1) := by decide +kernel
theorem dX12_layTwo_47 : decode cX12_layTwo 47 = .ok (.goto 4, 3) := by decide +kernel
theorem dX12_layTwo_50 : decode cX12_layTwo 50 = .ok (.iconst 0, 1) := by decide +kernel
theorem dX12_layTwo_51 : decode cX12_layTwo 51 = .ok (.istore_n 3, 1) := by decide +kernel
theorem dX12_layTwo_52 : decode cX12_layTwo 52 = .ok (.iload_n 3, 1) := by decide +kernel
theorem dX12_layTwo_53 : decode cX12_layTwo 53 = .ok (.ifCond .eq 7, 3) := by decide +kernel
theorem dX12_layTwo_56 : decode cX12_layTwo 56 = .ok (.iconst 0, 1) := by decide +kernel
theorem dX12_layTwo_57 : decode cX12_layTwo 57 = .ok (.goto 4, 3) := by decide +kernel
theorem dX12_layTwo_60 : decode cX12_layTwo 60 = .ok (.iconst 2, 1) := by decide +kernel
theorem dX12_layTwo_61 : decode cX12_layTwo 61 = .ok (.istore 4, 2) := by decide +kernel
theorem dX12_layTwo_63 : decode cX12_layTwo 63 = .ok (.iload_n 3, 1) := by decide +kernel
theorem dX12_layTwo_64 : decode cX12_layTwo 64 = .ok (.ifCond .eq 7, 3) := by decide +kernel
theorem dX12_layTwo_67 : decode cX12_layTwo 67 = .ok (.iconst (-1), 1) := by decide +kernel
theorem dX12_layTwo_68 : decode cX12_layTwo 68 = .ok (.goto 9, 3) := by decide +kernel
theorem dX12_layTwo_71 : decode cX12_layTwo 71 = .ok (.aload_n 0, 1) := by decide +kernel
theorem dX12_layTwo_72 : decode cX12_layTwo 72 = .ok (.iload_n 1, 1) := by decide +kernel
theorem dX12_layTwo_73 : decode cX12_layTwo 73 = .ok (.iload_n 2, 1) := by decide +kernel
theorem dX12_layTwo_74 : decode cX12_layTwo 74 = .ok (.invokevirtual 228, 3) := by decide +kernel
theorem dX12_layTwo_77 : decode cX12_layTwo 77 = .ok (.istore 5, 2) := by decide +kernel
theorem dX12_layTwo_79 : decode cX12_layTwo 79 = .ok (.iload_n 3, 1) := by decide +kernel
theorem dX12_layTwo_80 : decode cX12_layTwo 80 = .ok (.ifCond .ne 62, 3) := by decide +kernel
theorem dX12_layTwo_83 : decode cX12_layTwo 83 = .ok (.iload 5, 2) := by decide +kernel
theorem dX12_layTwo_85 : decode cX12_layTwo 85 = .ok (.ifCond .ge 57, 3) := by decide +kernel
theorem dX12_layTwo_88 : decode cX12_layTwo 88 = .ok (.aload_n 0, 1) := by decide +kernel
theorem dX12_layTwo_89 : decode cX12_layTwo 89 = .ok (.iload_n 1, 1) := by decide +kernel
theorem dX12_layTwo_90 : decode cX12_layTwo 90 = .ok (.iload_n 2, 1) := by decide +kernel
theorem dX12_layTwo_91 : decode cX12_layTwo 91 = .ok (.invokevirtual 231, 3) := by decide +kernel
theorem dX12_layTwo_94 : decode cX12_layTwo 94 = .ok (.istore 6, 2) := by decide +kernel
theorem dX12_layTwo_96 : decode cX12_layTwo 96 = .ok (.aload_n 0, 1) := by decide +kernel
theorem dX12_layTwo_97 : decode cX12_layTwo 97 = .ok (.iload_n 2, 1) := by decide +kernel
theorem dX12_layTwo_98 : decode cX12_layTwo 98 = .ok (.iload_n 1, 1) := by decide +kernel
theorem dX12_layTwo_99 : decode cX12_layTwo 99 = .ok (.invokevirtual 231, 3) := by decide +kernel
theorem dX12_layTwo_102 : decode cX12_layTwo 102 = .ok (.istore 7, 2) := by decide +kernel
theorem dX12_layTwo_104 : decode cX12_layTwo 104 = .ok (.iload 6, 2) := by decide +kernel
theorem dX12_layTwo_106 : decode cX12_layTwo 106 = .ok (.ifCond .lt 15, 3) := by decide +kernel
theorem dX12_layTwo_109 : decode cX12_layTwo 109 = .ok (.iload 7, 2) := by decide +kernel
theorem dX12_layTwo_111 : decode cX12_layTwo 111 = .ok (.ifCond .lt 15, 3) := by decide +kernel
theorem dX12_layTwo_114 : decode cX12_layTwo 114 = .ok (.iload 7, 2) := by decide +kernel
theorem dX12_layTwo_116 : decode cX12_layTwo 116 = .ok (.iload 6, 2) := by decide +kernel
theorem dX12_layTwo_118 : decode cX12_layTwo 118 = .ok (.if_icmp .ge 8, 3) := by decide +kernel
theorem dX12_layTwo_121 : decode cX12_layTwo 121 = .ok (.iload 7, 2) := by decide +kernel
theorem dX12_layTwo_123 : decode cX12_layTwo 123 = .ok (.goto 5, 3) := by decide +kernel
theorem dX12_layTwo_126 : decode cX12_layTwo 126 = .ok (.iload 6, 2) := by decide +kernel
theorem dX12_layTwo_128 : decode cX12_layTwo 128 = .ok (.istore 5, 2) := by decide +kernel
theorem dX12_layTwo_130 : decode cX12_layTwo 130 = .ok (.iload 5, 2) := by decide +kernel
theorem dX12_layTwo_132 : decode cX12_layTwo 132 = .ok (.ifCond .ge 7, 3) := by decide +kernel
theorem dX12_layTwo_135 : decode cX12_layTwo 135 = .ok (.iconst 0, 1) := by decide +kernel
theorem dX12_layTwo_136 : decode cX12_layTwo 136 = .ok (.goto 4, 3) := by decide +kernel
theorem dX12_layTwo_139 : decode cX12_layTwo 139 = .ok (.iconst 3, 1) := by decide +kernel
theorem dX12_layTwo_140 : decode cX12_layTwo 140 = .ok (.istore 4, 2) := by decide +kernel
theorem dX12_layTwo_142 : decode cX12_layTwo 142 = .ok (.aload_n 0, 1) := by decide +kernel
theorem dX12_layTwo_143 : decode cX12_layTwo 143 = .ok (.getfield 22, 3) := by decide +kernel
theorem dX12_layTwo_146 : decode cX12_layTwo 146 = .ok (.bipush 10, 2) := by decide +kernel
theorem dX12_layTwo_148 : decode cX12_layTwo 148 = .ok (.iload_n 1, 1) := by decide +kernel
theorem dX12_layTwo_149 : decode cX12_layTwo 149 = .ok (.imul, 1) := by decide +kernel
theorem dX12_layTwo_150 : decode cX12_layTwo 150 = .ok (.iload_n 2, 1) := by decide +kernel
theorem dX12_layTwo_151 : decode cX12_layTwo 151 = .ok (.iadd, 1) := by decide +kernel
theorem dX12_layTwo_152 : decode cX12_layTwo 152 = .ok (.iload 4, 2) := by decide +kernel
theorem dX12_layTwo_154 : decode cX12_layTwo 154 = .ok (.iastore, 1) := by decide +kernel
theorem dX12_layTwo_155 : decode cX12_layTwo 155 = .ok (.aload_n 0, 1) := by decide +kernel
theorem dX12_layTwo_156 : decode cX12_layTwo 156 = .ok (.getfield 22, 3) := by decide +kernel
theorem dX12_layTwo_159 : decode cX12_layTwo 159 = .ok (.bipush 10, 2) := by decide +kernel
theorem dX12_layTwo_161 : decode cX12_layTwo 161 = .ok (.iload_n 2, 1) := by decide +kernel
theorem dX12_layTwo_162 : decode cX12_layTwo 162 = .ok (.imul, 1) := by decide +kernel
theorem dX12_layTwo_163 : decode cX12_layTwo 163 = .ok (.iload_n 1, 1) := by decide +kernel
theorem dX12_layTwo_164 : decode cX12_layTwo 164 = .ok (.iadd, 1) := by decide +kernel
theorem dX12_layTwo_165 : decode cX12_layTwo 165 = .ok (.iload 4, 2) := by decide +kernel
theorem dX12_layTwo_167 : decode cX12_layTwo 167 = .ok (.iastore, 1) := by decide +kernel
theorem dX12_layTwo_168 : decode cX12_layTwo 168 = .ok (.aload_n 0, 1) := by decide +kernel
theorem dX12_layTwo_169 : decode cX12_layTwo 169 = .ok (.getfield 25, 3) := by decide +kernel
theorem dX12_layTwo_172 : decode cX12_layTwo 172 = .ok (.bipush 10, 2) := by decide +kernel
theorem dX12_layTwo_174 : decode cX12_layTwo 174 = .ok (.iload_n 1, 1) := by decide +kernel
theorem dX12_layTwo_175 : decode cX12_layTwo 175 = .ok (.imul, 1) := by decide +kernel
theorem dX12_layTwo_176 : decode cX12_layTwo 176 = .ok (.iload_n 2, 1) := by decide +kernel
theorem dX12_layTwo_177 : decode cX12_layTwo 177 = .ok (.iadd, 1) := by decide +kernel
theorem dX12_layTwo_178 : decode cX12_layTwo 178 = .ok (.iload 5, 2) := by decide +kernel
theorem dX12_layTwo_180 : decode cX12_layTwo 180 = .ok (.iastore, 1) := by decide +kernel
theorem dX12_layTwo_181 : decode cX12_layTwo 181 = .ok (.aload_n 0, 1) := by decide +kernel
theorem dX12_layTwo_182 : decode cX12_layTwo 182 = .ok (.getfield 25, 3) := by decide +kernel
theorem dX12_layTwo_185 : decode cX12_layTwo 185 = .ok (.bipush 10, 2) := by decide +kernel
theorem dX12_layTwo_187 : decode cX12_layTwo 187 = .ok (.iload_n 2, 1) := by decide +kernel
theorem dX12_layTwo_188 : decode cX12_layTwo 188 = .ok (.imul, 1) := by decide +kernel
theorem dX12_layTwo_189 : decode cX12_layTwo 189 = .ok (.iload_n 1, 1) := by decide +kernel
theorem dX12_layTwo_190 : decode cX12_layTwo 190 = .ok (.iadd, 1) := by decide +kernel
theorem dX12_layTwo_191 : decode cX12_layTwo 191 = .ok (.iload 5, 2) := by decide +kernel
theorem dX12_layTwo_193 : decode cX12_layTwo 193 = .ok (.iastore, 1) := by decide +kernel
theorem dX12_layTwo_194 : decode cX12_layTwo 194 = .ok (.iload 4, 2) := by decide +kernel
theorem dX12_layTwo_196 : decode cX12_layTwo 196 = .ok (.ifCond .eq 27, 3) := by decide +kernel
theorem dX12_layTwo_199 : decode cX12_layTwo 199 = .ok (.aload_n 0, 1) := by decide +kernel
theorem dX12_layTwo_200 : decode cX12_layTwo 200 = .ok (.getfield 19, 3) := by decide +kernel
theorem dX12_layTwo_203 : decode cX12_layTwo 203 = .ok (.iload_n 1, 1) := by decide +kernel
theorem dX12_layTwo_204 : decode cX12_layTwo 204 = .ok (.dup2, 1) := by decide +kernel
theorem dX12_layTwo_205 : decode cX12_layTwo 205 = .ok (.iaload, 1) := by decide +kernel
theorem dX12_layTwo_206 : decode cX12_layTwo 206 = .ok (.iconst 1, 1) := by decide +kernel
theorem dX12_layTwo_207 : decode cX12_layTwo 207 = .ok (.iload_n 2, 1) := by decide +kernel
theorem dX12_layTwo_208 : decode cX12_layTwo 208 = .ok (.ishl, 1) := by decide +kernel
theorem dX12_layTwo_209 : decode cX12_layTwo 209 = .ok (.ior, 1) := by decide +kernel
theorem dX12_layTwo_210 : decode cX12_layTwo 210 = .ok (.iastore, 1) := by decide +kernel
theorem dX12_layTwo_211 : decode cX12_layTwo 211 = .ok (.aload_n 0, 1) := by decide +kernel
theorem dX12_layTwo_212 : decode cX12_layTwo 212 = .ok (.getfield 19, 3) := by decide +kernel
theorem dX12_layTwo_215 : decode cX12_layTwo 215 = .ok (.iload_n 2, 1) := by decide +kernel
theorem dX12_layTwo_216 : decode cX12_layTwo 216 = .ok (.dup2, 1) := by decide +kernel
theorem dX12_layTwo_217 : decode cX12_layTwo 217 = .ok (.iaload, 1) := by decide +kernel
theorem dX12_layTwo_218 : decode cX12_layTwo 218 = .ok (.iconst 1, 1) := by decide +kernel
theorem dX12_layTwo_219 : decode cX12_layTwo 219 = .ok (.iload_n 1, 1) := by decide +kernel
theorem dX12_layTwo_220 : decode cX12_layTwo 220 = .ok (.ishl, 1) := by decide +kernel
theorem dX12_layTwo_221 : decode cX12_layTwo 221 = .ok (.ior, 1) := by decide +kernel
theorem dX12_layTwo_222 : decode cX12_layTwo 222 = .ok (.iastore, 1) := by decide +kernel
theorem dX12_layTwo_223 : decode cX12_layTwo 223 = .ok (.return_, 1) := by decide +kernel
theorem dX12_lay_0 : decode cX12_lay 0 = .ok (.aload_n 0, 1) := by decide +kernel
theorem dX12_lay_1 : decode cX12_lay 1 = .ok (.getfield 106, 3) := by decide +kernel
theorem dX12_lay_4 : decode cX12_lay 4 = .ok (.ifCond .eq 4, 3) := by decide +kernel
theorem dX12_lay_7 : decode cX12_lay 7 = .ok (.return_, 1) := by decide +kernel
theorem dX12_lay_8 : decode cX12_lay 8 = .ok (.aload_n 0, 1) := by decide +kernel
theorem dX12_lay_9 : decode cX12_lay 9 = .ok (.iconst 1, 1) := by decide +kernel
theorem dX12_lay_10 : decode cX12_lay 10 = .ok (.putfield 106, 3) := by decide +kernel
theorem dX12_lay_13 : decode cX12_lay 13 = .ok (.iconst 0, 1) := by decide +kernel
theorem dX12_lay_14 : decode cX12_lay 14 = .ok (.istore_n 1, 1) := by decide +kernel
theorem dX12_lay_15 : decode cX12_lay 15 = .ok (.iload_n 1, 1) := by decide +kernel
theorem dX12_lay_16 : decode cX12_lay 16 = .ok (.bipush 10, 2) := by decide +kernel
theorem dX12_lay_18 : decode cX12_lay 18 = .ok (.if_icmp .ge 16, 3) := by decide +kernel
theorem dX12_lay_21 : decode cX12_lay 21 = .ok (.aload_n 0, 1) := by decide +kernel
theorem dX12_lay_22 : decode cX12_lay 22 = .ok (.getfield 19, 3) := by decide +kernel
theorem dX12_lay_25 : decode cX12_lay 25 = .ok (.iload_n 1, 1) := by decide +kernel
theorem dX12_lay_26 : decode cX12_lay 26 = .ok (.iconst 0, 1) := by decide +kernel
theorem dX12_lay_27 : decode cX12_lay 27 = .ok (.iastore, 1) := by decide +kernel
theorem dX12_lay_28 : decode cX12_lay 28 = .ok (.iinc 1 1, 3) := by decide +kernel
theorem dX12_lay_31 : decode cX12_lay 31 = .ok (.goto (-16), 3) := by decide +kernel
theorem dX12_lay_34 : decode cX12_lay 34 = .ok (.iconst 0, 1) := by decide +kernel
theorem dX12_lay_35 : decode cX12_lay 35 = .ok (.istore_n 1, 1) := by decide +kernel
theorem dX12_lay_36 : decode cX12_lay 36 = .ok (.iload_n 1, 1) := by decide +kernel
theorem dX12_lay_37 : decode cX12_lay 37 = .ok (.aload_n 0, 1) := by decide +kernel
theorem dX12_lay_38 : decode cX12_lay 38 = .ok (.getfield 7, 3) := by decide +kernel
theorem dX12_lay_41 : decode cX12_lay 41 = .ok (.iconst 1, 1) := by decide +kernel
theorem dX12_lay_42 : decode cX12_lay 42 = .ok (.iaload, 1) := by decide +kernel
theorem dX12_lay_43 : decode cX12_lay 43 = .ok (.if_icmp .ge 35, 3) := by decide +kernel
theorem dX12_lay_46 : decode cX12_lay 46 = .ok (.iload_n 1, 1) := by decide +kernel
theorem dX12_lay_47 : decode cX12_lay 47 = .ok (.iconst 1, 1) := by decide +kernel
theorem dX12_lay_48 : decode cX12_lay 48 = .ok (.iadd, 1) := by decide +kernel
theorem dX12_lay_49 : decode cX12_lay 49 = .ok (.istore_n 2, 1) := by decide +kernel
theorem dX12_lay_50 : decode cX12_lay 50 = .ok (.iload_n 2, 1) := by decide +kernel
theorem dX12_lay_51 : decode cX12_lay 51 = .ok (.aload_n 0, 1) := by decide +kernel
theorem dX12_lay_52 : decode cX12_lay 52 = .ok (.getfield 7, 3) := by decide +kernel
theorem dX12_lay_55 : decode cX12_lay 55 = .ok (.iconst 1, 1) := by decide +kernel
theorem dX12_lay_56 : decode cX12_lay 56 = .ok (.iaload, 1) := by decide +kernel
theorem dX12_lay_57 : decode cX12_lay 57 = .ok (.if_icmp .ge 15, 3) := by decide +kernel
theorem dX12_lay_60 : decode cX12_lay 60 = .ok (.aload_n 0, 1) := by decide +kernel
theorem dX12_lay_61 : decode cX12_lay 61 = .ok (.iload_n 1, 1) := by decide +kernel
theorem dX12_lay_62 : decode cX12_lay 62 = .ok (.iload_n 2, 1) := by decide +kernel
theorem dX12_lay_63 : decode cX12_lay 63 = .ok (.invokevirtual 234, 3) := by decide +kernel
theorem dX12_lay_66 : decode cX12_lay 66 = .ok (.iinc 2 1, 3) := by decide +kernel
theorem dX12_lay_69 : decode cX12_lay 69 = .ok (.goto (-19), 3) := by decide +kernel
theorem dX12_lay_72 : decode cX12_lay 72 = .ok (.iinc 1 1, 3) := by decide +kernel
theorem dX12_lay_75 : decode cX12_lay 75 = .ok (.goto (-39), 3) := by decide +kernel
theorem dX12_lay_78 : decode cX12_lay 78 = .ok (.return_, 1) := by decide +kernel
theorem dX12_two_0 : decode cX12_two 0 = .ok (.aload_n 0, 1) := by decide +kernel
theorem dX12_two_1 : decode cX12_two 1 = .ok (.iload_n 1, 1) := by decide +kernel
theorem dX12_two_2 : decode cX12_two 2 = .ok (.invokevirtual 110, 3) := by decide +kernel
theorem dX12_two_5 : decode cX12_two 5 = .ok (.ifCond .eq 25, 3) := by decide +kernel
theorem dX12_two_8 : decode cX12_two 8 = .ok (.aload_n 0, 1) := by decide +kernel
theorem dX12_two_9 : decode cX12_two 9 = .ok (.iload_n 2, 1) := by decide +kernel
theorem dX12_two_10 : decode cX12_two 10 = .ok (.invokevirtual 110, 3) := by decide +kernel
theorem dX12_two_13 : decode cX12_two 13 = .ok (.ifCond .eq 17, 3) := by decide +kernel
theorem dX12_two_16 : decode cX12_two 16 = .ok (.iload_n 1, 1) := by decide +kernel
theorem dX12_two_17 : decode cX12_two 17 = .ok (.iload_n 2, 1) := by decide +kernel
theorem dX12_two_18 : decode cX12_two 18 = .ok (.if_icmp .eq 12, 3) := by decide +kernel
theorem dX12_two_21 : decode cX12_two 21 = .ok (.iload_n 3, 1) := by decide +kernel
theorem dX12_two_22 : decode cX12_two 22 = .ok (.iconst 0, 1) := by decide +kernel
theorem dX12_two_23 : decode cX12_two 23 = .ok (.iconst 1, 1) := by decide +kernel
theorem dX12_two_24 : decode cX12_two 24 = .ok (.invokestatic 91, 3) := by decide +kernel
theorem dX12_two_27 : decode cX12_two 27 = .ok (.ifCond .ne 9, 3) := by decide +kernel
theorem dX12_two_30 : decode cX12_two 30 = .ok (.aload_n 0, 1) := by decide +kernel
theorem dX12_two_31 : decode cX12_two 31 = .ok (.iconst 1, 1) := by decide +kernel
theorem dX12_two_32 : decode cX12_two 32 = .ok (.invokevirtual 95, 3) := by decide +kernel
theorem dX12_two_35 : decode cX12_two 35 = .ok (.ireturn, 1) := by decide +kernel
theorem dX12_two_36 : decode cX12_two 36 = .ok (.aload_n 0, 1) := by decide +kernel
theorem dX12_two_37 : decode cX12_two 37 = .ok (.invokevirtual 237, 3) := by decide +kernel
theorem dX12_two_40 : decode cX12_two 40 = .ok (.iload_n 3, 1) := by decide +kernel
theorem dX12_two_41 : decode cX12_two 41 = .ok (.ifCond .ne 15, 3) := by decide +kernel
theorem dX12_two_44 : decode cX12_two 44 = .ok (.aload_n 0, 1) := by decide +kernel
theorem dX12_two_45 : decode cX12_two 45 = .ok (.getfield 22, 3) := by decide +kernel
theorem dX12_two_48 : decode cX12_two 48 = .ok (.bipush 10, 2) := by decide +kernel
theorem dX12_two_50 : decode cX12_two 50 = .ok (.iload_n 1, 1) := by decide +kernel
theorem dX12_two_51 : decode cX12_two 51 = .ok (.imul, 1) := by decide +kernel
theorem dX12_two_52 : decode cX12_two 52 = .ok (.iload_n 2, 1) := by decide +kernel
theorem dX12_two_53 : decode cX12_two 53 = .ok (.iadd, 1) := by decide +kernel
theorem dX12_two_54 : decode cX12_two 54 = .ok (.iaload, 1) := by decide +kernel
theorem dX12_two_55 : decode cX12_two 55 = .ok (.ireturn, 1) := by decide +kernel
theorem dX12_two_56 : decode cX12_two 56 = .ok (.aload_n 0, 1) := by decide +kernel
theorem dX12_two_57 : decode cX12_two 57 = .ok (.getfield 22, 3) := by decide +kernel
theorem dX12_two_60 : decode cX12_two 60 = .ok (.bipush 10, 2) := by decide +kernel
theorem dX12_two_62 : decode cX12_two 62 = .ok (.iload_n 1, 1) := by decide +kernel
theorem dX12_two_63 : decode cX12_two 63 = .ok (.imul, 1) := by decide +kernel
theorem dX12_two_64 : decode cX12_two 64 = .ok (.iload_n 2, 1) := by decide +kernel
theorem dX12_two_65 : decode cX12_two 65 = .ok (.iadd, 1) := by decide +kernel
theorem dX12_two_66 : decode cX12_two 66 = .ok (.iaload, 1) := by decide +kernel
theorem dX12_two_67 : decode cX12_two 67 = .ok (.ifCond .ne 11, 3) := by decide +kernel
theorem dX12_two_70 : decode cX12_two 70 = .ok (.aload_n 0, 1) := by decide +kernel
theorem dX12_two_71 : decode cX12_two 71 = .ok (.iconst 2, 1) := by decide +kernel
theorem dX12_two_72 : decode cX12_two 72 = .ok (.invokevirtual 95, 3) := by decide +kernel
theorem dX12_two_75 : decode cX12_two 75 = .ok (.goto 14, 3) := by decide +kernel
theorem dX12_two_78 : decode cX12_two 78 = .ok (.aload_n 0, 1) := by decide +kernel
theorem dX12_two_79 : decode cX12_two 79 = .ok (.getfield 25, 3) := by decide +kernel
theorem dX12_two_82 : decode cX12_two 82 = .ok (.bipush 10, 2) := by decide +kernel
theorem dX12_two_84 : decode cX12_two 84 = .ok (.iload_n 1, 1) := by decide +kernel
theorem dX12_two_85 : decode cX12_two 85 = .ok (.imul, 1) := by decide +kernel
theorem dX12_two_86 : decode cX12_two 86 = .ok (.iload_n 2, 1) := by decide +kernel
theorem dX12_two_87 : decode cX12_two 87 = .ok (.iadd, 1) := by decide +kernel
theorem dX12_two_88 : decode cX12_two 88 = .ok (.iaload, 1) := by decide +kernel
theorem dX12_two_89 : decode cX12_two 89 = .ok (.ireturn, 1) := by decide +kernel
theorem dX12_cast_0 : decode cX12_cast 0 = .ok (.aload_n 0, 1) := by decide +kernel
theorem dX12_cast_1 : decode cX12_cast 1 = .ok (.iload_n 1, 1) := by decide +kernel
theorem dX12_cast_2 : decode cX12_cast 2 = .ok (.invokevirtual 110, 3) := by decide +kernel
theorem dX12_cast_5 : decode cX12_cast 5 = .ok (.ifCond .eq 16, 3) := by decide +kernel
theorem dX12_cast_8 : decode cX12_cast 8 = .ok (.iload_n 2, 1) := by decide +kernel
theorem dX12_cast_9 : decode cX12_cast 9 = .ok (.iconst (-1), 1) := by decide +kernel
theorem dX12_cast_10 : decode cX12_cast 10 = .ok (.if_icmp .eq 17, 3) := by decide +kernel
theorem dX12_cast_13 : decode cX12_cast 13 = .ok (.aload_n 0, 1) := by decide +kernel
theorem dX12_cast_14 : decode cX12_cast 14 = .ok (.iload_n 2, 1) := by decide +kernel
theorem dX12_cast_15 : decode cX12_cast 15 = .ok (.invokevirtual 145, 3) := by decide +kernel
theorem dX12_cast_18 : decode cX12_cast 18 = .ok (.ifCond .ne 9, 3) := by decide +kernel
theorem dX12_cast_21 : decode cX12_cast 21 = .ok (.aload_n 0, 1) := by decide +kernel
theorem dX12_cast_22 : decode cX12_cast 22 = .ok (.iconst 1, 1) := by decide +kernel
theorem dX12_cast_23 : decode cX12_cast 23 = .ok (.invokevirtual 95, 3) := by decide +kernel
theorem dX12_cast_26 : decode cX12_cast 26 = .ok (.ireturn, 1) := by decide +kernel
theorem dX12_cast_27 : decode cX12_cast 27 = .ok (.aload_n 0, 1) := by decide +kernel
theorem dX12_cast_28 : decode cX12_cast 28 = .ok (.iload_n 1, 1) := by decide +kernel
theorem dX12_cast_29 : decode cX12_cast 29 = .ok (.iconst 4, 1) := by decide +kernel
theorem dX12_cast_30 : decode cX12_cast 30 = .ok (.invokevirtual 114, 3) := by decide +kernel
theorem dX12_cast_33 : decode cX12_cast 33 = .ok (.istore_n 3, 1) := by decide +kernel
theorem dX12_cast_34 : decode cX12_cast 34 = .ok (.aload_n 0, 1) := by decide +kernel
theorem dX12_cast_35 : decode cX12_cast 35 = .ok (.getfield 7, 3) := by decide +kernel
theorem dX12_cast_38 : decode cX12_cast 38 = .ok (.bipush 10, 2) := by decide +kernel
theorem dX12_cast_40 : decode cX12_cast 40 = .ok (.iconst 5, 1) := by decide +kernel
theorem dX12_cast_41 : decode cX12_cast 41 = .ok (.iload_n 1, 1) := by decide +kernel
theorem dX12_cast_42 : decode cX12_cast 42 = .ok (.imul, 1) := by decide +kernel
theorem dX12_cast_43 : decode cX12_cast 43 = .ok (.iadd, 1) := by decide +kernel
theorem dX12_cast_44 : decode cX12_cast 44 = .ok (.iconst 4, 1) := by decide +kernel
theorem dX12_cast_45 : decode cX12_cast 45 = .ok (.iadd, 1) := by decide +kernel
theorem dX12_cast_46 : decode cX12_cast 46 = .ok (.iload_n 2, 1) := by decide +kernel
theorem dX12_cast_47 : decode cX12_cast 47 = .ok (.iastore, 1) := by decide +kernel
theorem dX12_cast_48 : decode cX12_cast 48 = .ok (.iload_n 3, 1) := by decide +kernel
theorem dX12_cast_49 : decode cX12_cast 49 = .ok (.ireturn, 1) := by decide +kernel
theorem dX12_block_0 : decode cX12_block 0 = .ok (.iload_n 1, 1) := by decide +kernel
theorem dX12_block_1 : decode cX12_block 1 = .ok (.invokestatic 240, 3) := by decide +kernel
theorem dX12_block_4 : decode cX12_block 4 = .ok (.ifCond .ne 9, 3) := by decide +kernel
theorem dX12_block_7 : decode cX12_block 7 = .ok (.aload_n 0, 1) := by decide +kernel
theorem dX12_block_8 : decode cX12_block 8 = .ok (.iconst 1, 1) := by decide +kernel
theorem dX12_block_9 : decode cX12_block 9 = .ok (.invokevirtual 95, 3) := by decide +kernel
theorem dX12_block_12 : decode cX12_block 12 = .ok (.ireturn, 1) := by decide +kernel
theorem dX12_block_13 : decode cX12_block 13 = .ok (.aload_n 0, 1) := by decide +kernel
theorem dX12_block_14 : decode cX12_block 14 = .ok (.getfield 78, 3) := by decide +kernel
theorem dX12_block_17 : decode cX12_block 17 = .ok (.iload_n 1, 1) := by decide +kernel
theorem dX12_block_18 : decode cX12_block 18 = .ok (.iaload, 1) := by decide +kernel
theorem dX12_block_19 : decode cX12_block 19 = .ok (.ifCond .ne 9, 3) := by decide +kernel
theorem dX12_block_22 : decode cX12_block 22 = .ok (.aload_n 0, 1) := by decide +kernel
theorem dX12_block_23 : decode cX12_block 23 = .ok (.iconst 2, 1) := by decide +kernel
theorem dX12_block_24 : decode cX12_block 24 = .ok (.invokevirtual 95, 3) := by decide +kernel
theorem dX12_block_27 : decode cX12_block 27 = .ok (.ireturn, 1) := by decide +kernel
theorem dX12_block_28 : decode cX12_block 28 = .ok (.aload_n 0, 1) := by decide +kernel
theorem dX12_block_29 : decode cX12_block 29 = .ok (.getfield 81, 3) := by decide +kernel
theorem dX12_block_32 : decode cX12_block 32 = .ok (.iload_n 1, 1) := by decide +kernel
theorem dX12_block_33 : decode cX12_block 33 = .ok (.iaload, 1) := by decide +kernel
theorem dX12_block_34 : decode cX12_block 34 = .ok (.aload_n 0, 1) := by decide +kernel
theorem dX12_block_35 : decode cX12_block 35 = .ok (.getfield 7, 3) := by decide +kernel
theorem dX12_block_38 : decode cX12_block 38 = .ok (.iconst 1, 1) := by decide +kernel
theorem dX12_block_39 : decode cX12_block 39 = .ok (.iaload, 1) := by decide +kernel
theorem dX12_block_40 : decode cX12_block 40 = .ok (.if_icmp .ge 12, 3) := by decide +kernel
theorem dX12_block_43 : decode cX12_block 43 = .ok (.aload_n 0, 1) := by decide +kernel
theorem dX12_block_44 : decode cX12_block 44 = .ok (.getfield 81, 3) := by decide +kernel
theorem dX12_block_47 : decode cX12_block 47 = .ok (.iload_n 1, 1) := by decide +kernel
theorem dX12_block_48 : decode cX12_block 48 = .ok (.iaload, 1) := by decide +kernel
theorem dX12_block_49 : decode cX12_block 49 = .ok (.goto 9, 3) := by decide +kernel
theorem dX12_block_52 : decode cX12_block 52 = .ok (.aload_n 0, 1) := by decide +kernel
theorem dX12_block_53 : decode cX12_block 53 = .ok (.getfield 7, 3) := by decide +kernel
theorem dX12_block_56 : decode cX12_block 56 = .ok (.iconst 1, 1) := by decide +kernel
theorem dX12_block_57 : decode cX12_block 57 = .ok (.iaload, 1) := by decide +kernel
theorem dX12_block_58 : decode cX12_block 58 = .ok (.istore_n 2, 1) := by decide +kernel
theorem dX12_block_59 : decode cX12_block 59 = .ok (.iconst 0, 1) := by decide +kernel
theorem dX12_block_60 : decode cX12_block 60 = .ok (.istore_n 3, 1) := by decide +kernel
theorem dX12_block_61 : decode cX12_block 61 = .ok (.iload_n 3, 1) := by decide +kernel
theorem dX12_block_62 : decode cX12_block 62 = .ok (.iload_n 2, 1) := by decide +kernel
theorem dX12_block_63 : decode cX12_block 63 = .ok (.if_icmp .ge 41, 3) := by decide +kernel
theorem dX12_block_66 : decode cX12_block 66 = .ok (.aload_n 0, 1) := by decide +kernel
theorem dX12_block_67 : decode cX12_block 67 = .ok (.getfield 84, 3) := by decide +kernel
theorem dX12_block_70 : decode cX12_block 70 = .ok (.bipush 24, 2) := by decide +kernel
theorem dX12_block_72 : decode cX12_block 72 = .ok (.iload_n 1, 1) := by decide +kernel
theorem dX12_block_73 : decode cX12_block 73 = .ok (.imul, 1) := by decide +kernel
theorem dX12_block_74 : decode cX12_block 74 = .ok (.iload_n 3, 1) := by decide +kernel
theorem dX12_block_75 : decode cX12_block 75 = .ok (.iadd, 1) := by decide +kernel
theorem dX12_block_76 : decode cX12_block 76 = .ok (.iaload, 1) := by decide +kernel
theorem dX12_block_77 : decode cX12_block 77 = .ok (.iconst (-1), 1) := by decide +kernel
theorem dX12_block_78 : decode cX12_block 78 = .ok (.aload_n 0, 1) := by decide +kernel
theorem dX12_block_79 : decode cX12_block 79 = .ok (.getfield 7, 3) := by decide +kernel
theorem dX12_block_82 : decode cX12_block 82 = .ok (.iconst 3, 1) := by decide +kernel
theorem dX12_block_83 : decode cX12_block 83 = .ok (.iaload, 1) := by decide +kernel
theorem dX12_block_84 : decode cX12_block 84 = .ok (.iconst 1, 1) := by decide +kernel
theorem dX12_block_85 : decode cX12_block 85 = .ok (.isub, 1) := by decide +kernel
theorem dX12_block_86 : decode cX12_block 86 = .ok (.invokestatic 91, 3) := by decide +kernel
theorem dX12_block_89 : decode cX12_block 89 = .ok (.ifCond .ne 9, 3) := by decide +kernel
theorem dX12_block_92 : decode cX12_block 92 = .ok (.aload_n 0, 1) := by decide +kernel
theorem dX12_block_93 : decode cX12_block 93 = .ok (.iconst 5, 1) := by decide +kernel
theorem dX12_block_94 : decode cX12_block 94 = .ok (.invokevirtual 95, 3) := by decide +kernel
theorem dX12_block_97 : decode cX12_block 97 = .ok (.ireturn, 1) := by decide +kernel
theorem dX12_block_98 : decode cX12_block 98 = .ok (.iinc 3 1, 3) := by decide +kernel
theorem dX12_block_101 : decode cX12_block 101 = .ok (.goto (-40), 3) := by decide +kernel
theorem dX12_block_104 : decode cX12_block 104 = .ok (.iconst 0, 1) := by decide +kernel
theorem dX12_block_105 : decode cX12_block 105 = .ok (.istore_n 3, 1) := by decide +kernel
theorem dX12_block_106 : decode cX12_block 106 = .ok (.iload_n 3, 1) := by decide +kernel
theorem dX12_block_107 : decode cX12_block 107 = .ok (.iload_n 2, 1) := by decide +kernel
theorem dX12_block_108 : decode cX12_block 108 = .ok (.if_icmp .ge 33, 3) := by decide +kernel
theorem dX12_block_111 : decode cX12_block 111 = .ok (.aload_n 0, 1) := by decide +kernel
theorem dX12_block_112 : decode cX12_block 112 = .ok (.getfield 7, 3) := by decide +kernel
theorem dX12_block_115 : decode cX12_block 115 = .ok (.bipush 10, 2) := by decide +kernel
theorem dX12_block_117 : decode cX12_block 117 = .ok (.iconst 5, 1) := by decide +kernel
theorem dX12_block_118 : decode cX12_block 118 = .ok (.iload_n 3, 1) := by decide +kernel
theorem dX12_block_119 : decode cX12_block 119 = .ok (.imul, 1) := by decide +kernel
theorem dX12_block_120 : decode cX12_block 120 = .ok (.iadd, 1) := by decide +kernel
theorem dX12_block_121 : decode cX12_block 121 = .ok (.iconst 4, 1) := by decide +kernel
theorem dX12_block_122 : decode cX12_block 122 = .ok (.iadd, 1) := by decide +kernel
theorem dX12_block_123 : decode cX12_block 123 = .ok (.aload_n 0, 1) := by decide +kernel
theorem dX12_block_124 : decode cX12_block 124 = .ok (.getfield 84, 3) := by decide +kernel
theorem dX12_block_127 : decode cX12_block 127 = .ok (.bipush 24, 2) := by decide +kernel
theorem dX12_block_129 : decode cX12_block 129 = .ok (.iload_n 1, 1) := by decide +kernel
theorem dX12_block_130 : decode cX12_block 130 = .ok (.imul, 1) := by decide +kernel
theorem dX12_block_131 : decode cX12_block 131 = .ok (.iload_n 3, 1) := by decide +kernel
theorem dX12_block_132 : decode cX12_block 132 = .ok (.iadd, 1) := by decide +kernel
theorem dX12_block_133 : decode cX12_block 133 = .ok (.iaload, 1) := by decide +kernel
theorem dX12_block_134 : decode cX12_block 134 = .ok (.iastore, 1) := by decide +kernel
theorem dX12_block_135 : decode cX12_block 135 = .ok (.iinc 3 1, 3) := by decide +kernel
theorem dX12_block_138 : decode cX12_block 138 = .ok (.goto (-32), 3) := by decide +kernel
theorem dX12_block_141 : decode cX12_block 141 = .ok (.iload_n 2, 1) := by decide +kernel
theorem dX12_block_142 : decode cX12_block 142 = .ok (.ireturn, 1) := by decide +kernel
theorem dX12_findBar_0 : decode cX12_findBar 0 = .ok (.aload_n 0, 1) := by decide +kernel
theorem dX12_findBar_1 : decode cX12_findBar 1 = .ok (.invokevirtual 237, 3) := by decide +kernel
theorem dX12_findBar_4 : decode cX12_findBar 4 = .ok (.aload_n 0, 1) := by decide +kernel
theorem dX12_findBar_5 : decode cX12_findBar 5 = .ok (.getfield 40, 3) := by decide +kernel
theorem dX12_findBar_8 : decode cX12_findBar 8 = .ok (.iconst 0, 1) := by decide +kernel
theorem dX12_findBar_9 : decode cX12_findBar 9 = .ok (.iconst 0, 1) := by decide +kernel
theorem dX12_findBar_10 : decode cX12_findBar 10 = .ok (.iastore, 1) := by decide +kernel
theorem dX12_findBar_11 : decode cX12_findBar 11 = .ok (.iconst 0, 1) := by decide +kernel
theorem dX12_findBar_12 : decode cX12_findBar 12 = .ok (.istore_n 1, 1) := by decide +kernel
theorem dX12_findBar_13 : decode cX12_findBar 13 = .ok (.iload_n 1, 1) := by decide +kernel
theorem dX12_findBar_14 : decode cX12_findBar 14 = .ok (.aload_n 0, 1) := by decide +kernel
theorem dX12_findBar_15 : decode cX12_findBar 15 = .ok (.getfield 7, 3) := by decide +kernel
theorem dX12_findBar_18 : decode cX12_findBar 18 = .ok (.iconst 1, 1) := by decide +kernel
theorem dX12_findBar_19 : decode cX12_findBar 19 = .ok (.iaload, 1) := by decide +kernel
theorem dX12_findBar_20 : decode cX12_findBar 20 = .ok (.if_icmp .ge 136, 3) := by decide +kernel
theorem dX12_findBar_23 : decode cX12_findBar 23 = .ok (.aload_n 0, 1) := by decide +kernel
theorem dX12_findBar_24 : decode cX12_findBar 24 = .ok (.iload_n 1, 1) := by decide +kernel
theorem dX12_findBar_25 : decode cX12_findBar 25 = .ok (.iconst 4, 1) := by decide +kernel
theorem dX12_findBar_26 : decode cX12_findBar 26 = .ok (.invokevirtual 114, 3) := by decide +kernel
theorem dX12_findBar_29 : decode cX12_findBar 29 = .ok (.istore_n 2, 1) := by decide +kernel
theorem dX12_findBar_30 : decode cX12_findBar 30 = .ok (.iload_n 2, 1) := by decide +kernel
theorem dX12_findBar_31 : decode cX12_findBar 31 = .ok (.ifCond .ge 6, 3) := by decide +kernel
theorem dX12_findBar_34 : decode cX12_findBar 34 = .ok (.goto 116, 3) := by decide +kernel
theorem dX12_findBar_37 : decode cX12_findBar 37 = .ok (.aload_n 0, 1) := by decide +kernel
theorem dX12_findBar_38 : decode cX12_findBar 38 = .ok (.getfield 40, 3) := by decide +kernel
theorem dX12_findBar_41 : decode cX12_findBar 41 = .ok (.iconst 1, 1) := by decide +kernel
theorem dX12_findBar_42 : decode cX12_findBar 42 = .ok (.iload_n 1, 1) := by decide +kernel
theorem dX12_findBar_43 : decode cX12_findBar 43 = .ok (.iastore, 1) := by decide +kernel
theorem dX12_findBar_44 : decode cX12_findBar 44 = .ok (.aload_n 0, 1) := by decide +kernel
theorem dX12_findBar_45 : decode cX12_findBar 45 = .ok (.iload_n 2, 1) := by decide +kernel
theorem dX12_findBar_46 : decode cX12_findBar 46 = .ok (.iload_n 1, 1) := by decide +kernel
theorem dX12_findBar_47 : decode cX12_findBar 47 = .ok (.invokevirtual 160, 3) := by decide +kernel
theorem dX12_findBar_50 : decode cX12_findBar 50 = .ok (.ifCond .ne 11, 3) := by decide +kernel
theorem dX12_findBar_53 : decode cX12_findBar 53 = .ok (.aload_n 0, 1) := by decide +kernel
theorem dX12_findBar_54 : decode cX12_findBar 54 = .ok (.getfield 40, 3) := by decide +kernel
theorem dX12_findBar_57 : decode cX12_findBar 57 = .ok (.iconst 0, 1) := by decide +kernel
theorem dX12_findBar_58 : decode cX12_findBar 58 = .ok (.iconst 1, 1) := by decide +kernel
theorem dX12_findBar_59 : decode cX12_findBar 59 = .ok (.iastore, 1) := by decide +kernel
theorem dX12_findBar_60 : decode cX12_findBar 60 = .ok (.return_, 1) := by decide +kernel
theorem dX12_findBar_61 : decode cX12_findBar 61 = .ok (.iload_n 1, 1) := by decide +kernel
theorem dX12_findBar_62 : decode cX12_findBar 62 = .ok (.iconst 1, 1) := by decide +kernel
theorem dX12_findBar_63 : decode cX12_findBar 63 = .ok (.iadd, 1) := by decide +kernel
theorem dX12_findBar_64 : decode cX12_findBar 64 = .ok (.istore_n 3, 1) := by decide +kernel
theorem dX12_findBar_65 : decode cX12_findBar 65 = .ok (.iload_n 3, 1) := by decide +kernel
theorem dX12_findBar_66 : decode cX12_findBar 66 = .ok (.aload_n 0, 1) := by decide +kernel
theorem dX12_findBar_67 : decode cX12_findBar 67 = .ok (.getfield 7, 3) := by decide +kernel
theorem dX12_findBar_70 : decode cX12_findBar 70 = .ok (.iconst 1, 1) := by decide +kernel
theorem dX12_findBar_71 : decode cX12_findBar 71 = .ok (.iaload, 1) := by decide +kernel
theorem dX12_findBar_72 : decode cX12_findBar 72 = .ok (.if_icmp .ge 78, 3) := by decide +kernel
theorem dX12_findBar_75 : decode cX12_findBar 75 = .ok (.aload_n 0, 1) := by decide +kernel
theorem dX12_findBar_76 : decode cX12_findBar 76 = .ok (.iload_n 3, 1) := by decide +kernel
theorem dX12_findBar_77 : decode cX12_findBar 77 = .ok (.iconst 4, 1) := by decide +kernel
theorem dX12_findBar_78 : decode cX12_findBar 78 = .ok (.invokevirtual 114, 3) := by decide +kernel
theorem dX12_findBar_81 : decode cX12_findBar 81 = .ok (.iload_n 2, 1) := by decide +kernel
theorem dX12_findBar_82 : decode cX12_findBar 82 = .ok (.if_icmp .ne 62, 3) := by decide +kernel
theorem dX12_findBar_85 : decode cX12_findBar 85 = .ok (.aload_n 0, 1) := by decide +kernel
theorem dX12_findBar_86 : decode cX12_findBar 86 = .ok (.getfield 22, 3) := by decide +kernel
theorem dX12_findBar_89 : decode cX12_findBar 89 = .ok (.bipush 10, 2) := by decide +kernel
theorem dX12_findBar_91 : decode cX12_findBar 91 = .ok (.iload_n 1, 1) := by decide +kernel
theorem dX12_findBar_92 : decode cX12_findBar 92 = .ok (.imul, 1) := by decide +kernel
theorem dX12_findBar_93 : decode cX12_findBar 93 = .ok (.iload_n 3, 1) := by decide +kernel
theorem dX12_findBar_94 : decode cX12_findBar 94 = .ok (.iadd, 1) := by decide +kernel
theorem dX12_findBar_95 : decode cX12_findBar 95 = .ok (.iaload, 1) := by decide +kernel
theorem dX12_findBar_96 : decode cX12_findBar 96 = .ok (.ifCond .ne 6, 3) := by decide +kernel
theorem dX12_findBar_99 : decode cX12_findBar 99 = .ok (.goto 45, 3) := by decide +kernel
theorem dX12_findBar_102 : decode cX12_findBar 102 = .ok (.aload_n 0, 1) := by decide +kernel
theorem dX12_findBar_103 : decode cX12_findBar 103 = .ok (.getfield 40, 3) := by decide +kernel
theorem dX12_findBar_106 : decode cX12_findBar 106 = .ok (.iconst 0, 1) := by decide +kernel
theorem dX12_findBar_107 : decode cX12_findBar 107 = .ok (.aload_n 0, 1) := by decide +kernel
theorem dX12_findBar_108 : decode cX12_findBar 108 = .ok (.getfield 22, 3) := by decide +kernel
theorem dX12_findBar_111 : decode cX12_findBar 111 = .ok (.bipush 10, 2) := by decide +kernel
theorem dX12_findBar_113 : decode cX12_findBar 113 = .ok (.iload_n 1, 1) := by decide +kernel
theorem dX12_findBar_114 : decode cX12_findBar 114 = .ok (.imul, 1) := by decide +kernel
theorem dX12_findBar_115 : decode cX12_findBar 115 = .ok (.iload_n 3, 1) := by decide +kernel
theorem dX12_findBar_116 : decode cX12_findBar 116 = .ok (.iadd, 1) := by decide +kernel
theorem dX12_findBar_117 : decode cX12_findBar 117 = .ok (.iaload, 1) := by decide +kernel
theorem dX12_findBar_118 : decode cX12_findBar 118 = .ok (.iastore, 1) := by decide +kernel
theorem dX12_findBar_119 : decode cX12_findBar 119 = .ok (.aload_n 0, 1) := by decide +kernel
theorem dX12_findBar_120 : decode cX12_findBar 120 = .ok (.getfield 40, 3) := by decide +kernel
theorem dX12_findBar_123 : decode cX12_findBar 123 = .ok (.iconst 2, 1) := by decide +kernel
theorem dX12_findBar_124 : decode cX12_findBar 124 = .ok (.iload_n 3, 1) := by decide +kernel
theorem dX12_findBar_125 : decode cX12_findBar 125 = .ok (.iastore, 1) := by decide +kernel
theorem dX12_findBar_126 : decode cX12_findBar 126 = .ok (.aload_n 0, 1) := by decide +kernel
theorem dX12_findBar_127 : decode cX12_findBar 127 = .ok (.getfield 40, 3) := by decide +kernel
theorem dX12_findBar_130 : decode cX12_findBar 130 = .ok (.iconst 3, 1) := by decide +kernel
theorem dX12_findBar_131 : decode cX12_findBar 131 = .ok (.aload_n 0, 1) := by decide +kernel
theorem dX12_findBar_132 : decode cX12_findBar 132 = .ok (.getfield 25, 3) := by decide +kernel
theorem dX12_findBar_135 : decode cX12_findBar 135 = .ok (.bipush 10, 2) := by decide +kernel
theorem dX12_findBar_137 : decode cX12_findBar 137 = .ok (.iload_n 1, 1) := by decide +kernel
theorem dX12_findBar_138 : decode cX12_findBar 138 = .ok (.imul, 1) := by decide +kernel
theorem dX12_findBar_139 : decode cX12_findBar 139 = .ok (.iload_n 3, 1) := by decide +kernel
theorem dX12_findBar_140 : decode cX12_findBar 140 = .ok (.iadd, 1) := by decide +kernel
theorem dX12_findBar_141 : decode cX12_findBar 141 = .ok (.iaload, 1) := by decide +kernel
theorem dX12_findBar_142 : decode cX12_findBar 142 = .ok (.iastore, 1) := by decide +kernel
theorem dX12_findBar_143 : decode cX12_findBar 143 = .ok (.return_, 1) := by decide +kernel
theorem dX12_findBar_144 : decode cX12_findBar 144 = .ok (.iinc 3 1, 3) := by decide +kernel
theorem dX12_findBar_147 : decode cX12_findBar 147 = .ok (.goto (-82), 3) := by decide +kernel
theorem dX12_findBar_150 : decode cX12_findBar 150 = .ok (.iinc 1 1, 3) := by decide +kernel
theorem dX12_findBar_153 : decode cX12_findBar 153 = .ok (.goto (-140), 3) := by decide +kernel
theorem dX12_findBar_156 : decode cX12_findBar 156 = .ok (.return_, 1) := by decide +kernel
theorem dX12_bars_0 : decode cX12_bars 0 = .ok (.iload_n 1, 1) := by decide +kernel
theorem dX12_bars_1 : decode cX12_bars 1 = .ok (.iconst 0, 1) := by decide +kernel
theorem dX12_bars_2 : decode cX12_bars 2 = .ok (.iconst 3, 1) := by decide +kernel
theorem dX12_bars_3 : decode cX12_bars 3 = .ok (.invokestatic 91, 3) := by decide +kernel
theorem dX12_bars_6 : decode cX12_bars 6 = .ok (.ifCond .ne 9, 3) := by decide +kernel
theorem dX12_bars_9 : decode cX12_bars 9 = .ok (.aload_n 0, 1) := by decide +kernel
theorem dX12_bars_10 : decode cX12_bars 10 = .ok (.iconst 1, 1) := by decide +kernel
theorem dX12_bars_11 : decode cX12_bars 11 = .ok (.invokevirtual 95, 3) := by decide +kernel
theorem dX12_bars_14 : decode cX12_bars 14 = .ok (.ireturn, 1) := by decide +kernel
theorem dX12_bars_15 : decode cX12_bars 15 = .ok (.aload_n 0, 1) := by decide +kernel
theorem dX12_bars_16 : decode cX12_bars 16 = .ok (.invokevirtual 243, 3) := by decide +kernel
theorem dX12_bars_19 : decode cX12_bars 19 = .ok (.iload_n 1, 1) := by decide +kernel
theorem dX12_bars_20 : decode cX12_bars 20 = .ok (.ifCond .ne 10, 3) := by decide +kernel
theorem dX12_bars_23 : decode cX12_bars 23 = .ok (.aload_n 0, 1) := by decide +kernel
theorem dX12_bars_24 : decode cX12_bars 24 = .ok (.getfield 40, 3) := by decide +kernel
theorem dX12_bars_27 : decode cX12_bars 27 = .ok (.iconst 0, 1) := by decide +kernel
theorem dX12_bars_28 : decode cX12_bars 28 = .ok (.iaload, 1) := by decide +kernel
theorem dX12_bars_29 : decode cX12_bars 29 = .ok (.ireturn, 1) := by decide +kernel
theorem dX12_bars_30 : decode cX12_bars 30 = .ok (.aload_n 0, 1) := by decide +kernel
theorem dX12_bars_31 : decode cX12_bars 31 = .ok (.getfield 40, 3) := by decide +kernel
theorem dX12_bars_34 : decode cX12_bars 34 = .ok (.iconst 0, 1) := by decide +kernel
theorem dX12_bars_35 : decode cX12_bars 35 = .ok (.iaload, 1) := by decide +kernel
theorem dX12_bars_36 : decode cX12_bars 36 = .ok (.ifCond .eq 18, 3) := by decide +kernel
theorem dX12_bars_39 : decode cX12_bars 39 = .ok (.aload_n 0, 1) := by decide +kernel
theorem dX12_bars_40 : decode cX12_bars 40 = .ok (.getfield 40, 3) := by decide +kernel
theorem dX12_bars_43 : decode cX12_bars 43 = .ok (.iconst 0, 1) := by decide +kernel
theorem dX12_bars_44 : decode cX12_bars 44 = .ok (.iaload, 1) := by decide +kernel
theorem dX12_bars_45 : decode cX12_bars 45 = .ok (.iconst 1, 1) := by decide +kernel
theorem dX12_bars_46 : decode cX12_bars 46 = .ok (.if_icmp .ne 16, 3) := by decide +kernel
theorem dX12_bars_49 : decode cX12_bars 49 = .ok (.iload_n 1, 1) := by decide +kernel
theorem dX12_bars_50 : decode cX12_bars 50 = .ok (.iconst 1, 1) := by decide +kernel
theorem dX12_bars_51 : decode cX12_bars 51 = .ok (.if_icmp .le 11, 3) := by decide +kernel
theorem dX12_bars_54 : decode cX12_bars 54 = .ok (.aload_n 0, 1) := by decide +kernel
theorem dX12_bars_55 : decode cX12_bars 55 = .ok (.iconst 2, 1) := by decide +kernel
theorem dX12_bars_56 : decode cX12_bars 56 = .ok (.invokevirtual 95, 3) := by decide +kernel
theorem dX12_bars_59 : decode cX12_bars 59 = .ok (.goto 9, 3) := by decide +kernel
theorem dX12_bars_62 : decode cX12_bars 62 = .ok (.aload_n 0, 1) := by decide +kernel
theorem dX12_bars_63 : decode cX12_bars 63 = .ok (.getfield 40, 3) := by decide +kernel
theorem dX12_bars_66 : decode cX12_bars 66 = .ok (.iload_n 1, 1) := by decide +kernel
theorem dX12_bars_67 : decode cX12_bars 67 = .ok (.iaload, 1) := by decide +kernel
theorem dX12_bars_68 : decode cX12_bars 68 = .ok (.ireturn, 1) := by decide +kernel
theorem dX12_busy_0 : decode cX12_busy 0 = .ok (.aload_n 0, 1) := by decide +kernel
theorem dX12_busy_1 : decode cX12_busy 1 = .ok (.iload_n 1, 1) := by decide +kernel
theorem dX12_busy_2 : decode cX12_busy 2 = .ok (.invokevirtual 145, 3) := by decide +kernel
theorem dX12_busy_5 : decode cX12_busy 5 = .ok (.ifCond .ne 9, 3) := by decide +kernel
theorem dX12_busy_8 : decode cX12_busy 8 = .ok (.aload_n 0, 1) := by decide +kernel
theorem dX12_busy_9 : decode cX12_busy 9 = .ok (.iconst 1, 1) := by decide +kernel
theorem dX12_busy_10 : decode cX12_busy 10 = .ok (.invokevirtual 95, 3) := by decide +kernel
theorem dX12_busy_13 : decode cX12_busy 13 = .ok (.ireturn, 1) := by decide +kernel
theorem dX12_busy_14 : decode cX12_busy 14 = .ok (.iconst 0, 1) := by decide +kernel
theorem dX12_busy_15 : decode cX12_busy 15 = .ok (.istore_n 2, 1) := by decide +kernel
theorem dX12_busy_16 : decode cX12_busy 16 = .ok (.iconst 0, 1) := by decide +kernel
theorem dX12_busy_17 : decode cX12_busy 17 = .ok (.istore_n 3, 1) := by decide +kernel
theorem dX12_busy_18 : decode cX12_busy 18 = .ok (.iload_n 3, 1) := by decide +kernel
theorem dX12_busy_19 : decode cX12_busy 19 = .ok (.aload_n 0, 1) := by decide +kernel
theorem dX12_busy_20 : decode cX12_busy 20 = .ok (.getfield 7, 3) := by decide +kernel
theorem dX12_busy_23 : decode cX12_busy 23 = .ok (.iconst 0, 1) := by decide +kernel
theorem dX12_busy_24 : decode cX12_busy 24 = .ok (.iaload, 1) := by decide +kernel
theorem dX12_busy_25 : decode cX12_busy 25 = .ok (.if_icmp .ge 80, 3) := by decide +kernel
theorem dX12_busy_28 : decode cX12_busy 28 = .ok (.iconst 0, 1) := by decide +kernel
theorem dX12_busy_29 : decode cX12_busy 29 = .ok (.istore 4, 2) := by decide +kernel
theorem dX12_busy_31 : decode cX12_busy 31 = .ok (.iconst 0, 1) := by decide +kernel
theorem dX12_busy_32 : decode cX12_busy 32 = .ok (.istore 5, 2) := by decide +kernel
theorem dX12_busy_34 : decode cX12_busy 34 = .ok (.iload 5, 2) := by decide +kernel
theorem dX12_busy_36 : decode cX12_busy 36 = .ok (.aload_n 0, 1) := by decide +kernel
theorem dX12_busy_37 : decode cX12_busy 37 = .ok (.getfield 7, 3) := by decide +kernel
theorem dX12_busy_40 : decode cX12_busy 40 = .ok (.iconst 1, 1) := by decide +kernel
theorem dX12_busy_41 : decode cX12_busy 41 = .ok (.iaload, 1) := by decide +kernel
theorem dX12_busy_42 : decode cX12_busy 42 = .ok (.if_icmp .ge 44, 3) := by decide +kernel
theorem dX12_busy_45 : decode cX12_busy 45 = .ok (.iload 4, 2) := by decide +kernel
theorem dX12_busy_47 : decode cX12_busy 47 = .ok (.ifCond .ne 26, 3) := by decide +kernel
theorem dX12_busy_50 : decode cX12_busy 50 = .ok (.aload_n 0, 1) := by decide +kernel
theorem dX12_busy_51 : decode cX12_busy 51 = .ok (.iload 5, 2) := by decide +kernel
theorem dX12_busy_53 : decode cX12_busy 53 = .ok (.iconst 4, 1) := by decide +kernel
theorem dX12_busy_54 : decode cX12_busy 54 = .ok (.invokevirtual 114, 3) := by decide +kernel
theorem dX12_busy_57 : decode cX12_busy 57 = .ok (.iload_n 1, 1) := by decide +kernel
theorem dX12_busy_58 : decode cX12_busy 58 = .ok (.if_icmp .ne 19, 3) := by decide +kernel
theorem dX12_busy_61 : decode cX12_busy 61 = .ok (.aload_n 0, 1) := by decide +kernel
theorem dX12_busy_62 : decode cX12_busy 62 = .ok (.iload 5, 2) := by decide +kernel
theorem dX12_busy_64 : decode cX12_busy 64 = .ok (.iload_n 3, 1) := by decide +kernel
theorem dX12_busy_65 : decode cX12_busy 65 = .ok (.iload_n 3, 1) := by decide +kernel
theorem dX12_busy_66 : decode cX12_busy 66 = .ok (.iconst (-1), 1) := by decide +kernel
theorem dX12_busy_67 : decode cX12_busy 67 = .ok (.invokevirtual 127, 3) := by decide +kernel
theorem dX12_busy_70 : decode cX12_busy 70 = .ok (.ifCond .eq 7, 3) := by decide +kernel
theorem dX12_busy_73 : decode cX12_busy 73 = .ok (.iconst 1, 1) := by decide +kernel
theorem dX12_busy_74 : decode cX12_busy 74 = .ok (.goto 4, 3) := by decide +kernel
theorem dX12_busy_77 : decode cX12_busy 77 = .ok (.iconst 0, 1) := by decide +kernel
theorem dX12_busy_78 : decode cX12_busy 78 = .ok (.istore 4, 2) := by decide +kernel
theorem dX12_busy_80 : decode cX12_busy 80 = .ok (.iinc 5 1, 3) := by decide +kernel
theorem dX12_busy_83 : decode cX12_busy 83 = .ok (.goto (-49), 3) := by decide +kernel
theorem dX12_busy_86 : decode cX12_busy 86 = .ok (.iload_n 2, 1) := by decide +kernel
theorem dX12_busy_87 : decode cX12_busy 87 = .ok (.iload 4, 2) := by decide +kernel
theorem dX12_busy_89 : decode cX12_busy 89 = .ok (.ifCond .eq 7, 3) := by decide +kernel
theorem dX12_busy_92 : decode cX12_busy 92 = .ok (.iconst 1, 1) := by decide +kernel
theorem dX12_busy_93 : decode cX12_busy 93 = .ok (.goto 4, 3) := by decide +kernel
theorem dX12_busy_96 : decode cX12_busy 96 = .ok (.iconst 0, 1) := by decide +kernel
theorem dX12_busy_97 : decode cX12_busy 97 = .ok (.iadd, 1) := by decide +kernel
theorem dX12_busy_98 : decode cX12_busy 98 = .ok (.istore_n 2, 1) := by decide +kernel
theorem dX12_busy_99 : decode cX12_busy 99 = .ok (.iinc 3 1, 3) := by decide +kernel
theorem dX12_busy_102 : decode cX12_busy 102 = .ok (.goto (-84), 3) := by decide +kernel
theorem dX12_busy_105 : decode cX12_busy 105 = .ok (.iload_n 2, 1) := by decide +kernel
theorem dX12_busy_106 : decode cX12_busy 106 = .ok (.ireturn, 1) := by decide +kernel
theorem dX12_isIn_0 : decode cX12_isIn 0 = .ok (.iconst 0, 1) := by decide +kernel
theorem dX12_isIn_1 : decode cX12_isIn 1 = .ok (.istore_n 3, 1) := by decide +kernel
theorem dX12_isIn_2 : decode cX12_isIn 2 = .ok (.iconst 0, 1) := by decide +kernel
theorem dX12_isIn_3 : decode cX12_isIn 3 = .ok (.istore 4, 2) := by decide +kernel
theorem dX12_isIn_5 : decode cX12_isIn 5 = .ok (.iload 4, 2) := by decide +kernel
theorem dX12_isIn_7 : decode cX12_isIn 7 = .ok (.bipush 10, 2) := by decide +kernel
theorem dX12_isIn_9 : decode cX12_isIn 9 = .ok (.if_icmp .ge 17, 3) := by decide +kernel
theorem dX12_isIn_12 : decode cX12_isIn 12 = .ok (.aload_n 0, 1) := by decide +kernel
theorem dX12_isIn_13 : decode cX12_isIn 13 = .ok (.getfield 49, 3) := by decide +kernel
theorem dX12_isIn_16 : decode cX12_isIn 16 = .ok (.iload 4, 2) := by decide +kernel
theorem dX12_isIn_18 : decode cX12_isIn 18 = .ok (.iconst 0, 1) := by decide +kernel
theorem dX12_isIn_19 : decode cX12_isIn 19 = .ok (.iastore, 1) := by decide +kernel
theorem dX12_isIn_20 : decode cX12_isIn 20 = .ok (.iinc 4 1, 3) := by decide +kernel
theorem dX12_isIn_23 : decode cX12_isIn 23 = .ok (.goto (-18), 3) := by decide +kernel
theorem dX12_isIn_26 : decode cX12_isIn 26 = .ok (.aload_n 0, 1) := by decide +kernel
theorem dX12_isIn_27 : decode cX12_isIn 27 = .ok (.getfield 43, 3) := by decide +kernel
theorem dX12_isIn_30 : decode cX12_isIn 30 = .ok (.iconst 0, 1) := by decide +kernel
theorem dX12_isIn_31 : decode cX12_isIn 31 = .ok (.iconst (-1), 1) := by decide +kernel
theorem dX12_isIn_32 : decode cX12_isIn 32 = .ok (.iastore, 1) := by decide +kernel
theorem dX12_isIn_33 : decode cX12_isIn 33 = .ok (.aload_n 0, 1) := by decide +kernel
theorem dX12_isIn_34 : decode cX12_isIn 34 = .ok (.getfield 46, 3) := by decide +kernel
theorem dX12_isIn_37 : decode cX12_isIn 37 = .ok (.iconst 0, 1) := by decide +kernel
theorem dX12_isIn_38 : decode cX12_isIn 38 = .ok (.iconst 0, 1) := by decide +kernel
theorem dX12_isIn_39 : decode cX12_isIn 39 = .ok (.iastore, 1) := by decide +kernel
theorem dX12_isIn_40 : decode cX12_isIn 40 = .ok (.iload_n 3, 1) := by decide +kernel
theorem dX12_isIn_41 : decode cX12_isIn 41 = .ok (.ifCond .lt 264, 3) := by decide +kernel
theorem dX12_isIn_44 : decode cX12_isIn 44 = .ok (.iload_n 3, 1) := by decide +kernel
theorem dX12_isIn_45 : decode cX12_isIn 45 = .ok (.aload_n 0, 1) := by decide +kernel
theorem dX12_isIn_46 : decode cX12_isIn 46 = .ok (.getfield 7, 3) := by decide +kernel
theorem dX12_isIn_49 : decode cX12_isIn 49 = .ok (.iconst 1, 1) := by decide +kernel
theorem dX12_isIn_50 : decode cX12_isIn 50 = .ok (.iaload, 1) := by decide +kernel
theorem dX12_isIn_51 : decode cX12_isIn 51 = .ok (.if_icmp .ge 254, 3) := by decide +kernel
theorem dX12_isIn_54 : decode cX12_isIn 54 = .ok (.aload_n 0, 1) := by decide +kernel
theorem dX12_isIn_55 : decode cX12_isIn 55 = .ok (.getfield 43, 3) := by decide +kernel
theorem dX12_isIn_58 : decode cX12_isIn 58 = .ok (.iload_n 3, 1) := by decide +kernel
theorem dX12_isIn_59 : decode cX12_isIn 59 = .ok (.iaload, 1) := by decide +kernel
theorem dX12_isIn_60 : decode cX12_isIn 60 = .ok (.ifCond .lt 22, 3) := by decide +kernel
theorem dX12_isIn_63 : decode cX12_isIn 63 = .ok (.aload_n 0, 1) := by decide +kernel
theorem dX12_isIn_64 : decode cX12_isIn 64 = .ok (.getfield 49, 3) := by decide +kernel
theorem dX12_isIn_67 : decode cX12_isIn 67 = .ok (.aload_n 0, 1) := by decide +kernel
theorem dX12_isIn_68 : decode cX12_isIn 68 = .ok (.getfield 43, 3) := by decide +kernel
theorem dX12_isIn_71 : decode cX12_isIn 71 = .ok (.iload_n 3, 1) := by decide +kernel
theorem dX12_isIn_72 : decode cX12_isIn 72 = .ok (.iaload, 1) := by decide +kernel
theorem dX12_isIn_73 : decode cX12_isIn 73 = .ok (.dup2, 1) := by decide +kernel
theorem dX12_isIn_74 : decode cX12_isIn 74 = .ok (.iaload, 1) := by decide +kernel
theorem dX12_isIn_75 : decode cX12_isIn 75 = .ok (.iconst 1, 1) := by decide +kernel
theorem dX12_isIn_76 : decode cX12_isIn 76 = .ok (.iload_n 3, 1) := by decide +kernel
theorem dX12_isIn_77 : decode cX12_isIn 77 = .ok (.ishl, 1) := by decide +kernel
theorem dX12_isIn_78 : decode cX12_isIn 78 = .ok (.iconst (-1), 1) := by decide +kernel
theorem dX12_isIn_79 : decode cX12_isIn 79 = .ok (.ixor, 1) := by decide +kernel
theorem dX12_isIn_80 : decode cX12_isIn 80 = .ok (.iand, 1) := by decide +kernel
theorem dX12_isIn_81 : decode cX12_isIn 81 = .ok (.iastore, 1) := by decide +kernel
theorem dX12_isIn_82 : decode cX12_isIn 82 = .ok (.aload_n 0, 1) := by decide +kernel
theorem dX12_isIn_83 : decode cX12_isIn 83 = .ok (.getfield 43, 3) := by decide +kernel
theorem dX12_isIn_86 : decode cX12_isIn 86 = .ok (.iload_n 3, 1) := by decide +kernel
theorem dX12_isIn_87 : decode cX12_isIn 87 = .ok (.iaload, 1) := by decide +kernel
theorem dX12_isIn_88 : decode cX12_isIn 88 = .ok (.iconst 1, 1) := by decide +kernel
theorem dX12_isIn_89 : decode cX12_isIn 89 = .ok (.iadd, 1) := by decide +kernel
theorem dX12_isIn_90 : decode cX12_isIn 90 = .ok (.istore 4, 2) := by decide +kernel
theorem dX12_isIn_92 : decode cX12_isIn 92 = .ok (.iload_n 1, 1) := by decide +kernel
theorem dX12_isIn_93 : decode cX12_isIn 93 = .ok (.iload_n 3, 1) := by decide +kernel
theorem dX12_isIn_94 : decode cX12_isIn 94 = .ok (.ishr, 1) := by decide +kernel
theorem dX12_isIn_95 : decode cX12_isIn 95 = .ok (.iconst 1, 1) := by decide +kernel
theorem dX12_isIn_96 : decode cX12_isIn 96 = .ok (.iand, 1) := by decide +kernel
theorem dX12_isIn_97 : decode cX12_isIn 97 = .ok (.iconst 1, 1) := by decide +kernel
theorem dX12_isIn_98 : decode cX12_isIn 98 = .ok (.if_icmp .ne 7, 3) := by decide +kernel
theorem dX12_isIn_101 : decode cX12_isIn 101 = .ok (.iconst 1, 1) := by decide +kernel
theorem dX12_isIn_102 : decode cX12_isIn 102 = .ok (.goto 4, 3) := by decide +kernel
theorem dX12_isIn_105 : decode cX12_isIn 105 = .ok (.iconst 0, 1) := by decide +kernel
theorem dX12_isIn_106 : decode cX12_isIn 106 = .ok (.istore 5, 2) := by decide +kernel
theorem dX12_isIn_108 : decode cX12_isIn 108 = .ok (.aload_n 0, 1) := by decide +kernel
theorem dX12_isIn_109 : decode cX12_isIn 109 = .ok (.getfield 46, 3) := by decide +kernel
theorem dX12_isIn_112 : decode cX12_isIn 112 = .ok (.iload_n 3, 1) := by decide +kernel
theorem dX12_isIn_113 : decode cX12_isIn 113 = .ok (.iaload, 1) := by decide +kernel
theorem dX12_isIn_114 : decode cX12_isIn 114 = .ok (.iload_n 2, 1) := by decide +kernel
theorem dX12_isIn_115 : decode cX12_isIn 115 = .ok (.if_icmp .ge 12, 3) := by decide +kernel
theorem dX12_isIn_118 : decode cX12_isIn 118 = .ok (.aload_n 0, 1) := by decide +kernel
theorem dX12_isIn_119 : decode cX12_isIn 119 = .ok (.getfield 46, 3) := by decide +kernel
theorem dX12_isIn_122 : decode cX12_isIn 122 = .ok (.iload_n 3, 1) := by decide +kernel
theorem dX12_isIn_123 : decode cX12_isIn 123 = .ok (.iaload, 1) := by decide +kernel
theorem dX12_isIn_124 : decode cX12_isIn 124 = .ok (.goto 6, 3) := by decide +kernel
theorem dX12_isIn_127 : decode cX12_isIn 127 = .ok (.iload_n 2, 1) := by decide +kernel
theorem dX12_isIn_128 : decode cX12_isIn 128 = .ok (.iconst 1, 1) := by decide +kernel
theorem dX12_isIn_129 : decode cX12_isIn 129 = .ok (.isub, 1) := by decide +kernel
theorem dX12_isIn_130 : decode cX12_isIn 130 = .ok (.istore 6, 2) := by decide +kernel
theorem dX12_isIn_132 : decode cX12_isIn 132 = .ok (.iload 5, 2) := by decide +kernel
theorem dX12_isIn_134 : decode cX12_isIn 134 = .ok (.ifCond .eq 33, 3) := by decide +kernel
theorem dX12_isIn_137 : decode cX12_isIn 137 = .ok (.iload 4, 2) := by decide +kernel
theorem dX12_isIn_139 : decode cX12_isIn 139 = .ok (.iload 6, 2) := by decide +kernel
theorem dX12_isIn_141 : decode cX12_isIn 141 = .ok (.if_icmp .gt 26, 3) := by decide +kernel
theorem dX12_isIn_144 : decode cX12_isIn 144 = .ok (.aload_n 0, 1) := by decide +kernel
theorem dX12_isIn_145 : decode cX12_isIn 145 = .ok (.getfield 49, 3) := by decide +kernel
theorem dX12_isIn_148 : decode cX12_isIn 148 = .ok (.iload 4, 2) := by decide +kernel
theorem dX12_isIn_150 : decode cX12_isIn 150 = .ok (.iaload, 1) := by decide +kernel
theorem dX12_isIn_151 : decode cX12_isIn 151 = .ok (.aload_n 0, 1) := by decide +kernel
theorem dX12_isIn_152 : decode cX12_isIn 152 = .ok (.getfield 19, 3) := by decide +kernel
theorem dX12_isIn_155 : decode cX12_isIn 155 = .ok (.iload_n 3, 1) := by decide +kernel
theorem dX12_isIn_156 : decode cX12_isIn 156 = .ok (.iaload, 1) := by decide +kernel
theorem dX12_isIn_157 : decode cX12_isIn 157 = .ok (.iand, 1) := by decide +kernel
theorem dX12_isIn_158 : decode cX12_isIn 158 = .ok (.ifCond .eq 9, 3) := by decide +kernel
theorem dX12_isIn_161 : decode cX12_isIn 161 = .ok (.iinc 4 1, 3) := by decide +kernel
theorem dX12_isIn_164 : decode cX12_isIn 164 = .ok (.goto (-32), 3) := by decide +kernel
theorem dX12_isIn_167 : decode cX12_isIn 167 = .ok (.iload 5, 2) := by decide +kernel
theorem dX12_isIn_169 : decode cX12_isIn 169 = .ok (.ifCond .eq 18, 3) := by decide +kernel
theorem dX12_isIn_172 : decode cX12_isIn 172 = .ok (.iload 4, 2) := by decide +kernel
theorem dX12_isIn_174 : decode cX12_isIn 174 = .ok (.iload 6, 2) := by decide +kernel
theorem dX12_isIn_176 : decode cX12_isIn 176 = .ok (.if_icmp .gt 7, 3) := by decide +kernel
theorem dX12_isIn_179 : decode cX12_isIn 179 = .ok (.iconst 1, 1) := by decide +kernel
theorem dX12_isIn_180 : decode cX12_isIn 180 = .ok (.goto 22, 3) := by decide +kernel
theorem dX12_isIn_183 : decode cX12_isIn 183 = .ok (.iconst 0, 1) := by decide +kernel
theorem dX12_isIn_184 : decode cX12_isIn 184 = .ok (.goto 18, 3) := by decide +kernel
theorem dX12_isIn_187 : decode cX12_isIn 187 = .ok (.aload_n 0, 1) := by decide +kernel
theorem dX12_isIn_188 : decode cX12_isIn 188 = .ok (.getfield 43, 3) := by decide +kernel
theorem dX12_isIn_191 : decode cX12_isIn 191 = .ok (.iload_n 3, 1) := by decide +kernel
theorem dX12_isIn_192 : decode cX12_isIn 192 = .ok (.iaload, 1) := by decide +kernel
theorem dX12_isIn_193 : decode cX12_isIn 193 = .ok (.iconst (-1), 1) := by decide +kernel
theorem dX12_isIn_194 : decode cX12_isIn 194 = .ok (.if_icmp .ne 7, 3) := by decide +kernel
theorem dX12_isIn_197 : decode cX12_isIn 197 = .ok (.iconst 1, 1) := by decide +kernel
theorem dX12_isIn_198 : decode cX12_isIn 198 = .ok (.goto 4, 3) := by decide +kernel
theorem dX12_isIn_201 : decode cX12_isIn 201 = .ok (.iconst 0, 1) := by decide +kernel
theorem dX12_isIn_202 : decode cX12_isIn 202 = .ok (.istore 7, 2) := by decide +kernel
theorem dX12_isIn_204 : decode cX12_isIn 204 = .ok (.iload 7, 2) := by decide +kernel
theorem dX12_isIn_206 : decode cX12_isIn 206 = .ok (.ifCond .ne 9, 3) := by decide +kernel
theorem dX12_isIn_209 : decode cX12_isIn 209 = .ok (.iinc 3 (-1), 3) := by decide +kernel
theorem dX12_isIn_212 : decode cX12_isIn 212 = .ok (.goto (-172), 3) := by decide +kernel
theorem dX12_isIn_215 : decode cX12_isIn 215 = .ok (.aload_n 0, 1) := by decide +kernel
theorem dX12_isIn_216 : decode cX12_isIn 216 = .ok (.getfield 43, 3) := by decide +kernel
theorem dX12_isIn_219 : decode cX12_isIn 219 = .ok (.iload_n 3, 1) := by decide +kernel
theorem dX12_isIn_220 : decode cX12_isIn 220 = .ok (.iload 5, 2) := by decide +kernel
theorem dX12_isIn_222 : decode cX12_isIn 222 = .ok (.ifCond .eq 8, 3) := by decide +kernel
theorem dX12_isIn_225 : decode cX12_isIn 225 = .ok (.iload 4, 2) := by decide +kernel
theorem dX12_isIn_227 : decode cX12_isIn 227 = .ok (.goto 5, 3) := by decide +kernel
theorem dX12_isIn_230 : decode cX12_isIn 230 = .ok (.bipush (-2), 2) := by decide +kernel
theorem dX12_isIn_232 : decode cX12_isIn 232 = .ok (.iastore, 1) := by decide +kernel
theorem dX12_isIn_233 : decode cX12_isIn 233 = .ok (.iload 5, 2) := by decide +kernel
theorem dX12_isIn_235 : decode cX12_isIn 235 = .ok (.ifCond .eq 16, 3) := by decide +kernel
theorem dX12_isIn_238 : decode cX12_isIn 238 = .ok (.aload_n 0, 1) := by decide +kernel
theorem dX12_isIn_239 : decode cX12_isIn 239 = .ok (.getfield 49, 3) := by decide +kernel
theorem dX12_isIn_242 : decode cX12_isIn 242 = .ok (.iload 4, 2) := by decide +kernel
theorem dX12_isIn_244 : decode cX12_isIn 244 = .ok (.dup2, 1) := by decide +kernel
theorem dX12_isIn_245 : decode cX12_isIn 245 = .ok (.iaload, 1) := by decide +kernel
theorem dX12_isIn_246 : decode cX12_isIn 246 = .ok (.iconst 1, 1) := by decide +kernel
theorem dX12_isIn_247 : decode cX12_isIn 247 = .ok (.iload_n 3, 1) := by decide +kernel
theorem dX12_isIn_248 : decode cX12_isIn 248 = .ok (.ishl, 1) := by decide +kernel
theorem dX12_isIn_249 : decode cX12_isIn 249 = .ok (.ior, 1) := by decide +kernel
theorem dX12_isIn_250 : decode cX12_isIn 250 = .ok (.iastore, 1) := by decide +kernel
theorem dX12_isIn_251 : decode cX12_isIn 251 = .ok (.aload_n 0, 1) := by decide +kernel
theorem dX12_isIn_252 : decode cX12_isIn 252 = .ok (.getfield 46, 3) := by decide +kernel
theorem dX12_isIn_255 : decode cX12_isIn 255 = .ok (.iload_n 3, 1) := by decide +kernel
theorem dX12_isIn_256 : decode cX12_isIn 256 = .ok (.iconst 1, 1) := by decide +kernel
theorem dX12_isIn_257 : decode cX12_isIn 257 = .ok (.iadd, 1) := by decide +kernel
theorem dX12_isIn_258 : decode cX12_isIn 258 = .ok (.iload 5, 2) := by decide +kernel
theorem dX12_isIn_260 : decode cX12_isIn 260 = .ok (.ifCond .eq 25, 3) := by decide +kernel
theorem dX12_isIn_263 : decode cX12_isIn 263 = .ok (.iload 4, 2) := by decide +kernel
theorem dX12_isIn_265 : decode cX12_isIn 265 = .ok (.aload_n 0, 1) := by decide +kernel
theorem dX12_isIn_266 : decode cX12_isIn 266 = .ok (.getfield 46, 3) := by decide +kernel
theorem dX12_isIn_269 : decode cX12_isIn 269 = .ok (.iload_n 3, 1) := by decide +kernel
theorem dX12_isIn_270 : decode cX12_isIn 270 = .ok (.iaload, 1) := by decide +kernel
theorem dX12_isIn_271 : decode cX12_isIn 271 = .ok (.if_icmp .ne 14, 3) := by decide +kernel
theorem dX12_isIn_274 : decode cX12_isIn 274 = .ok (.aload_n 0, 1) := by decide +kernel
theorem dX12_isIn_275 : decode cX12_isIn 275 = .ok (.getfield 46, 3) := by decide +kernel
theorem dX12_isIn_278 : decode cX12_isIn 278 = .ok (.iload_n 3, 1) := by decide +kernel
theorem dX12_isIn_279 : decode cX12_isIn 279 = .ok (.iaload, 1) := by decide +kernel
theorem dX12_isIn_280 : decode cX12_isIn 280 = .ok (.iconst 1, 1) := by decide +kernel
theorem dX12_isIn_281 : decode cX12_isIn 281 = .ok (.iadd, 1) := by decide +kernel
theorem dX12_isIn_282 : decode cX12_isIn 282 = .ok (.goto 9, 3) := by decide +kernel
theorem dX12_isIn_285 : decode cX12_isIn 285 = .ok (.aload_n 0, 1) := by decide +kernel
theorem dX12_isIn_286 : decode cX12_isIn 286 = .ok (.getfield 46, 3) := by decide +kernel
theorem dX12_isIn_289 : decode cX12_isIn 289 = .ok (.iload_n 3, 1) := by decide +kernel
theorem dX12_isIn_290 : decode cX12_isIn 290 = .ok (.iaload, 1) := by decide +kernel
theorem dX12_isIn_291 : decode cX12_isIn 291 = .ok (.iastore, 1) := by decide +kernel
theorem dX12_isIn_292 : decode cX12_isIn 292 = .ok (.iinc 3 1, 3) := by decide +kernel
theorem dX12_isIn_295 : decode cX12_isIn 295 = .ok (.aload_n 0, 1) := by decide +kernel
theorem dX12_isIn_296 : decode cX12_isIn 296 = .ok (.getfield 43, 3) := by decide +kernel
theorem dX12_isIn_299 : decode cX12_isIn 299 = .ok (.iload_n 3, 1) := by decide +kernel
theorem dX12_isIn_300 : decode cX12_isIn 300 = .ok (.iconst (-1), 1) := by decide +kernel
theorem dX12_isIn_301 : decode cX12_isIn 301 = .ok (.iastore, 1) := by decide +kernel
theorem dX12_isIn_302 : decode cX12_isIn 302 = .ok (.goto (-262), 3) := by decide +kernel
theorem dX12_isIn_305 : decode cX12_isIn 305 = .ok (.iload_n 3, 1) := by decide +kernel
theorem dX12_isIn_306 : decode cX12_isIn 306 = .ok (.ifCond .lt 7, 3) := by decide +kernel
theorem dX12_isIn_309 : decode cX12_isIn 309 = .ok (.iconst 1, 1) := by decide +kernel
theorem dX12_isIn_310 : decode cX12_isIn 310 = .ok (.goto 4, 3) := by decide +kernel
theorem dX12_isIn_313 : decode cX12_isIn 313 = .ok (.iconst 0, 1) := by decide +kernel
theorem dX12_isIn_314 : decode cX12_isIn 314 = .ok (.ireturn, 1) := by decide +kernel
theorem dX12_fewestOf_0 : decode cX12_fewestOf 0 = .ok (.aload_n 0, 1) := by decide +kernel
theorem dX12_fewestOf_1 : decode cX12_fewestOf 1 = .ok (.invokevirtual 237, 3) := by decide +kernel
theorem dX12_fewestOf_4 : decode cX12_fewestOf 4 = .ok (.iconst 0, 1) := by decide +kernel
theorem dX12_fewestOf_5 : decode cX12_fewestOf 5 = .ok (.istore_n 2, 1) := by decide +kernel
theorem dX12_fewestOf_6 : decode cX12_fewestOf 6 = .ok (.aload_n 0, 1) := by decide +kernel
theorem dX12_fewestOf_7 : decode cX12_fewestOf 7 = .ok (.iload_n 1, 1) := by decide +kernel
theorem dX12_fewestOf_8 : decode cX12_fewestOf 8 = .ok (.iload_n 2, 1) := by decide +kernel
theorem dX12_fewestOf_9 : decode cX12_fewestOf 9 = .ok (.invokevirtual 246, 3) := by decide +kernel
theorem dX12_fewestOf_12 : decode cX12_fewestOf 12 = .ok (.ifCond .ne 9, 3) := by decide +kernel
theorem dX12_fewestOf_15 : decode cX12_fewestOf 15 = .ok (.iinc 2 1, 3) := by decide +kernel
theorem dX12_fewestOf_18 : decode cX12_fewestOf 18 = .ok (.goto (-12), 3) := by decide +kernel
theorem dX12_fewestOf_21 : decode cX12_fewestOf 21 = .ok (.iload_n 2, 1) := by decide +kernel
theorem dX12_fewestOf_22 : decode cX12_fewestOf 22 = .ok (.ireturn, 1) := by decide +kernel
theorem dX12_allParts_0 : decode cX12_allParts 0 = .ok (.iconst 1, 1) := by decide +kernel
theorem dX12_allParts_1 : decode cX12_allParts 1 = .ok (.aload_n 0, 1) := by decide +kernel
theorem dX12_allParts_2 : decode cX12_allParts 2 = .ok (.getfield 7, 3) := by decide +kernel
theorem dX12_allParts_5 : decode cX12_allParts 5 = .ok (.iconst 1, 1) := by decide +kernel
theorem dX12_allParts_6 : decode cX12_allParts 6 = .ok (.iaload, 1) := by decide +kernel
theorem dX12_allParts_7 : decode cX12_allParts 7 = .ok (.ishl, 1) := by decide +kernel
theorem dX12_allParts_8 : decode cX12_allParts 8 = .ok (.iconst 1, 1) := by decide +kernel
theorem dX12_allParts_9 : decode cX12_allParts 9 = .ok (.isub, 1) := by decide +kernel
theorem dX12_allParts_10 : decode cX12_allParts 10 = .ok (.ireturn, 1) := by decide +kernel
theorem dX12_fewest_0 : decode cX12_fewest 0 = .ok (.aload_n 0, 1) := by decide +kernel
theorem dX12_fewest_1 : decode cX12_fewest 1 = .ok (.aload_n 0, 1) := by decide +kernel
theorem dX12_fewest_2 : decode cX12_fewest 2 = .ok (.invokevirtual 249, 3) := by decide +kernel
theorem dX12_fewest_5 : decode cX12_fewest 5 = .ok (.invokevirtual 252, 3) := by decide +kernel
theorem dX12_fewest_8 : decode cX12_fewest 8 = .ok (.ireturn, 1) := by decide +kernel
theorem dX12_group_0 : decode cX12_group 0 = .ok (.aload_n 0, 1) := by decide +kernel
theorem dX12_group_1 : decode cX12_group 1 = .ok (.iload_n 1, 1) := by decide +kernel
theorem dX12_group_2 : decode cX12_group 2 = .ok (.invokevirtual 110, 3) := by decide +kernel
theorem dX12_group_5 : decode cX12_group 5 = .ok (.ifCond .ne 9, 3) := by decide +kernel
theorem dX12_group_8 : decode cX12_group 8 = .ok (.aload_n 0, 1) := by decide +kernel
theorem dX12_group_9 : decode cX12_group 9 = .ok (.iconst 1, 1) := by decide +kernel
theorem dX12_group_10 : decode cX12_group 10 = .ok (.invokevirtual 95, 3) := by decide +kernel
theorem dX12_group_13 : decode cX12_group 13 = .ok (.ireturn, 1) := by decide +kernel
theorem dX12_group_14 : decode cX12_group 14 = .ok (.aload_n 0, 1) := by decide +kernel
theorem dX12_group_15 : decode cX12_group 15 = .ok (.aload_n 0, 1) := by decide +kernel
theorem dX12_group_16 : decode cX12_group 16 = .ok (.invokevirtual 249, 3) := by decide +kernel
theorem dX12_group_19 : decode cX12_group 19 = .ok (.invokevirtual 252, 3) := by decide +kernel
theorem dX12_group_22 : decode cX12_group 22 = .ok (.istore_n 2, 1) := by decide +kernel
theorem dX12_group_23 : decode cX12_group 23 = .ok (.aload_n 0, 1) := by decide +kernel
theorem dX12_group_24 : decode cX12_group 24 = .ok (.getfield 43, 3) := by decide +kernel
theorem dX12_group_27 : decode cX12_group 27 = .ok (.iload_n 1, 1) := by decide +kernel
theorem dX12_group_28 : decode cX12_group 28 = .ok (.iaload, 1) := by decide +kernel
theorem dX12_group_29 : decode cX12_group 29 = .ok (.ireturn, 1) := by decide +kernel
theorem dX12_crowd_0 : decode cX12_crowd 0 = .ok (.iconst 0, 1) := by decide +kernel
theorem dX12_crowd_1 : decode cX12_crowd 1 = .ok (.istore_n 1, 1) := by decide +kernel
theorem dX12_crowd_2 : decode cX12_crowd 2 = .ok (.iconst 0, 1) := by decide +kernel
theorem dX12_crowd_3 : decode cX12_crowd 3 = .ok (.istore_n 2, 1) := by decide +kernel
theorem dX12_crowd_4 : decode cX12_crowd 4 = .ok (.iload_n 2, 1) := by decide +kernel
theorem dX12_crowd_5 : decode cX12_crowd 5 = .ok (.aload_n 0, 1) := by decide +kernel
theorem dX12_crowd_6 : decode cX12_crowd 6 = .ok (.getfield 7, 3) := by decide +kernel
theorem dX12_crowd_9 : decode cX12_crowd 9 = .ok (.iconst 0, 1) := by decide +kernel
theorem dX12_crowd_10 : decode cX12_crowd 10 = .ok (.iaload, 1) := by decide +kernel
theorem dX12_crowd_11 : decode cX12_crowd 11 = .ok (.if_icmp .ge 27, 3) := by decide +kernel
theorem dX12_crowd_14 : decode cX12_crowd 14 = .ok (.aload_n 0, 1) := by decide +kernel
theorem dX12_crowd_15 : decode cX12_crowd 15 = .ok (.iload_n 2, 1) := by decide +kernel
theorem dX12_crowd_16 : decode cX12_crowd 16 = .ok (.iconst 0, 1) := by decide +kernel
theorem dX12_crowd_17 : decode cX12_crowd 17 = .ok (.invokevirtual 141, 3) := by decide +kernel
theorem dX12_crowd_20 : decode cX12_crowd 20 = .ok (.istore_n 3, 1) := by decide +kernel
theorem dX12_crowd_21 : decode cX12_crowd 21 = .ok (.iload_n 3, 1) := by decide +kernel
theorem dX12_crowd_22 : decode cX12_crowd 22 = .ok (.iload_n 1, 1) := by decide +kernel
theorem dX12_crowd_23 : decode cX12_crowd 23 = .ok (.if_icmp .le 7, 3) := by decide +kernel
theorem dX12_crowd_26 : decode cX12_crowd 26 = .ok (.iload_n 3, 1) := by decide +kernel
theorem dX12_crowd_27 : decode cX12_crowd 27 = .ok (.goto 4, 3) := by decide +kernel
theorem dX12_crowd_30 : decode cX12_crowd 30 = .ok (.iload_n 1, 1) := by decide +kernel
theorem dX12_crowd_31 : decode cX12_crowd 31 = .ok (.istore_n 1, 1) := by decide +kernel
theorem dX12_crowd_32 : decode cX12_crowd 32 = .ok (.iinc 2 1, 3) := by decide +kernel
theorem dX12_crowd_35 : decode cX12_crowd 35 = .ok (.goto (-31), 3) := by decide +kernel
theorem dX12_crowd_38 : decode cX12_crowd 38 = .ok (.iload_n 1, 1) := by decide +kernel
theorem dX12_crowd_39 : decode cX12_crowd 39 = .ok (.ireturn, 1) := by decide +kernel
theorem dX12_helps_0 : decode cX12_helps 0 = .ok (.aload_n 0, 1) := by decide +kernel
theorem dX12_helps_1 : decode cX12_helps 1 = .ok (.iload_n 1, 1) := by decide +kernel
theorem dX12_helps_2 : decode cX12_helps 2 = .ok (.iload_n 2, 1) := by decide +kernel
theorem dX12_helps_3 : decode cX12_helps 3 = .ok (.invokevirtual 134, 3) := by decide +kernel
theorem dX12_helps_6 : decode cX12_helps 6 = .ok (.istore_n 3, 1) := by decide +kernel
theorem dX12_helps_7 : decode cX12_helps 7 = .ok (.iload_n 3, 1) := by decide +kernel
theorem dX12_helps_8 : decode cX12_helps 8 = .ok (.ifCond .eq 9, 3) := by decide +kernel
theorem dX12_helps_11 : decode cX12_helps 11 = .ok (.aload_n 0, 1) := by decide +kernel
theorem dX12_helps_12 : decode cX12_helps 12 = .ok (.iload_n 3, 1) := by decide +kernel
theorem dX12_helps_13 : decode cX12_helps 13 = .ok (.invokevirtual 95, 3) := by decide +kernel
theorem dX12_helps_16 : decode cX12_helps 16 = .ok (.ireturn, 1) := by decide +kernel
theorem dX12_helps_17 : decode cX12_helps 17 = .ok (.aload_n 0, 1) := by decide +kernel
theorem dX12_helps_18 : decode cX12_helps 18 = .ok (.iload_n 1, 1) := by decide +kernel
theorem dX12_helps_19 : decode cX12_helps 19 = .ok (.iload_n 2, 1) := by decide +kernel
theorem dX12_helps_20 : decode cX12_helps 20 = .ok (.invokevirtual 137, 3) := by decide +kernel
theorem dX12_helps_23 : decode cX12_helps 23 = .ok (.aload_n 0, 1) := by decide +kernel
theorem dX12_helps_24 : decode cX12_helps 24 = .ok (.aload_n 0, 1) := by decide +kernel
theorem dX12_helps_25 : decode cX12_helps 25 = .ok (.invokevirtual 249, 3) := by decide +kernel
theorem dX12_helps_28 : decode cX12_helps 28 = .ok (.invokevirtual 252, 3) := by decide +kernel
theorem dX12_helps_31 : decode cX12_helps 31 = .ok (.istore 4, 2) := by decide +kernel
theorem dX12_helps_33 : decode cX12_helps 33 = .ok (.aload_n 0, 1) := by decide +kernel
theorem dX12_helps_34 : decode cX12_helps 34 = .ok (.iload_n 1, 1) := by decide +kernel
theorem dX12_helps_35 : decode cX12_helps 35 = .ok (.iload_n 2, 1) := by decide +kernel
theorem dX12_helps_36 : decode cX12_helps 36 = .ok (.ineg, 1) := by decide +kernel
theorem dX12_helps_37 : decode cX12_helps 37 = .ok (.invokevirtual 137, 3) := by decide +kernel
theorem dX12_helps_40 : decode cX12_helps 40 = .ok (.iload 4, 2) := by decide +kernel
theorem dX12_helps_42 : decode cX12_helps 42 = .ok (.ireturn, 1) := by decide +kernel
theorem dX12_without_0 : decode cX12_without 0 = .ok (.aload_n 0, 1) := by decide +kernel
theorem dX12_without_1 : decode cX12_without 1 = .ok (.iload_n 1, 1) := by decide +kernel
theorem dX12_without_2 : decode cX12_without 2 = .ok (.invokevirtual 110, 3) := by decide +kernel
theorem dX12_without_5 : decode cX12_without 5 = .ok (.ifCond .eq 20, 3) := by decide +kernel
theorem dX12_without_8 : decode cX12_without 8 = .ok (.aload_n 0, 1) := by decide +kernel
theorem dX12_without_9 : decode cX12_without 9 = .ok (.aload_n 0, 1) := by decide +kernel
theorem dX12_without_10 : decode cX12_without 10 = .ok (.invokevirtual 249, 3) := by decide +kernel
theorem dX12_without_13 : decode cX12_without 13 = .ok (.iconst 1, 1) := by decide +kernel
theorem dX12_without_14 : decode cX12_without 14 = .ok (.iload_n 1, 1) := by decide +kernel
theorem dX12_without_15 : decode cX12_without 15 = .ok (.ishl, 1) := by decide +kernel
theorem dX12_without_16 : decode cX12_without 16 = .ok (.iconst (-1), 1) := by decide +kernel
theorem dX12_without_17 : decode cX12_without 17 = .ok (.ixor, 1) := by decide +kernel
theorem dX12_without_18 : decode cX12_without 18 = .ok (.iand, 1) := by decide +kernel
theorem dX12_without_19 : decode cX12_without 19 = .ok (.invokevirtual 252, 3) := by decide +kernel
theorem dX12_without_22 : decode cX12_without 22 = .ok (.goto 8, 3) := by decide +kernel
theorem dX12_without_25 : decode cX12_without 25 = .ok (.aload_n 0, 1) := by decide +kernel
theorem dX12_without_26 : decode cX12_without 26 = .ok (.iconst 1, 1) := by decide +kernel
theorem dX12_without_27 : decode cX12_without 27 = .ok (.invokevirtual 95, 3) := by decide +kernel
theorem dX12_without_30 : decode cX12_without 30 = .ok (.ireturn, 1) := by decide +kernel
theorem dX12_findSets_0 : decode cX12_findSets 0 = .ok (.iconst 0, 1) := by decide +kernel
theorem dX12_findSets_1 : decode cX12_findSets 1 = .ok (.istore_n 2, 1) := by decide +kernel
theorem dX12_findSets_2 : decode cX12_findSets 2 = .ok (.iconst 0, 1) := by decide +kernel
theorem dX12_findSets_3 : decode cX12_findSets 3 = .ok (.istore_n 3, 1) := by decide +kernel
theorem dX12_findSets_4 : decode cX12_findSets 4 = .ok (.iload_n 3, 1) := by decide +kernel
theorem dX12_findSets_5 : decode cX12_findSets 5 = .ok (.aload_n 0, 1) := by decide +kernel
theorem dX12_findSets_6 : decode cX12_findSets 6 = .ok (.getfield 7, 3) := by decide +kernel
theorem dX12_findSets_9 : decode cX12_findSets 9 = .ok (.iconst 1, 1) := by decide +kernel
theorem dX12_findSets_10 : decode cX12_findSets 10 = .ok (.iaload, 1) := by decide +kernel
theorem dX12_findSets_11 : decode cX12_findSets 11 = .ok (.if_icmp .ge 28, 3) := by decide +kernel
theorem dX12_findSets_14 : decode cX12_findSets 14 = .ok (.iload_n 2, 1) := by decide +kernel
theorem dX12_findSets_15 : decode cX12_findSets 15 = .ok (.aload_n 0, 1) := by decide +kernel
theorem dX12_findSets_16 : decode cX12_findSets 16 = .ok (.iload_n 1, 1) := by decide +kernel
theorem dX12_findSets_17 : decode cX12_findSets 17 = .ok (.iload_n 3, 1) := by decide +kernel
theorem dX12_findSets_18 : decode cX12_findSets 18 = .ok (.invokevirtual 160, 3) := by decide +kernel
theorem dX12_findSets_21 : decode cX12_findSets 21 = .ok (.ifCond .eq 9, 3) := by decide +kernel
theorem dX12_findSets_24 : decode cX12_findSets 24 = .ok (.iconst 1, 1) := by decide +kernel
theorem dX12_findSets_25 : decode cX12_findSets 25 = .ok (.iload_n 3, 1) := by decide +kernel
theorem dX12_findSets_26 : decode cX12_findSets 26 = .ok (.ishl, 1) := by decide +kernel
theorem dX12_findSets_27 : decode cX12_findSets 27 = .ok (.goto 4, 3) := by decide +kernel
theorem dX12_findSets_30 : decode cX12_findSets 30 = .ok (.iconst 0, 1) := by decide +kernel
theorem dX12_findSets_31 : decode cX12_findSets 31 = .ok (.ior, 1) := by decide +kernel
theorem dX12_findSets_32 : decode cX12_findSets 32 = .ok (.istore_n 2, 1) := by decide +kernel
theorem dX12_findSets_33 : decode cX12_findSets 33 = .ok (.iinc 3 1, 3) := by decide +kernel
theorem dX12_findSets_36 : decode cX12_findSets 36 = .ok (.goto (-32), 3) := by decide +kernel
theorem dX12_findSets_39 : decode cX12_findSets 39 = .ok (.aload_n 0, 1) := by decide +kernel
theorem dX12_findSets_40 : decode cX12_findSets 40 = .ok (.getfield 52, 3) := by decide +kernel
theorem dX12_findSets_43 : decode cX12_findSets 43 = .ok (.iconst 0, 1) := by decide +kernel
theorem dX12_findSets_44 : decode cX12_findSets 44 = .ok (.iconst 1, 1) := by decide +kernel
theorem dX12_findSets_45 : decode cX12_findSets 45 = .ok (.bastore, 1) := by decide +kernel
theorem dX12_findSets_46 : decode cX12_findSets 46 = .ok (.iconst 1, 1) := by decide +kernel
theorem dX12_findSets_47 : decode cX12_findSets 47 = .ok (.istore_n 3, 1) := by decide +kernel
theorem dX12_findSets_48 : decode cX12_findSets 48 = .ok (.iload_n 3, 1) := by decide +kernel
theorem dX12_findSets_49 : decode cX12_findSets 49 = .ok (.aload_n 0, 1) := by decide +kernel
theorem dX12_findSets_50 : decode cX12_findSets 50 = .ok (.invokevirtual 249, 3) := by decide +kernel
theorem dX12_findSets_53 : decode cX12_findSets 53 = .ok (.if_icmp .gt 80, 3) := by decide +kernel
theorem dX12_findSets_56 : decode cX12_findSets 56 = .ok (.iconst 0, 1) := by decide +kernel
theorem dX12_findSets_57 : decode cX12_findSets 57 = .ok (.istore 4, 2) := by decide +kernel
theorem dX12_findSets_59 : decode cX12_findSets 59 = .ok (.iload_n 3, 1) := by decide +kernel
theorem dX12_findSets_60 : decode cX12_findSets 60 = .ok (.iload 4, 2) := by decide +kernel
theorem dX12_findSets_62 : decode cX12_findSets 62 = .ok (.ishr, 1) := by decide +kernel
theorem dX12_findSets_63 : decode cX12_findSets 63 = .ok (.iconst 1, 1) := by decide +kernel
theorem dX12_findSets_64 : decode cX12_findSets 64 = .ok (.if_icmp .le 9, 3) := by decide +kernel
theorem dX12_findSets_67 : decode cX12_findSets 67 = .ok (.iinc 4 1, 3) := by decide +kernel
theorem dX12_findSets_70 : decode cX12_findSets 70 = .ok (.goto (-11), 3) := by decide +kernel
theorem dX12_findSets_73 : decode cX12_findSets 73 = .ok (.iload_n 3, 1) := by decide +kernel
theorem dX12_findSets_74 : decode cX12_findSets 74 = .ok (.iconst 1, 1) := by decide +kernel
theorem dX12_findSets_75 : decode cX12_findSets 75 = .ok (.iload 4, 2) := by decide +kernel
theorem dX12_findSets_77 : decode cX12_findSets 77 = .ok (.ishl, 1) := by decide +kernel
theorem dX12_findSets_78 : decode cX12_findSets 78 = .ok (.iconst (-1), 1) := by decide +kernel
theorem dX12_findSets_79 : decode cX12_findSets 79 = .ok (.ixor, 1) := by decide +kernel
theorem dX12_findSets_80 : decode cX12_findSets 80 = .ok (.iand, 1) := by decide +kernel
theorem dX12_findSets_81 : decode cX12_findSets 81 = .ok (.istore 5, 2) := by decide +kernel
theorem dX12_findSets_83 : decode cX12_findSets 83 = .ok (.aload_n 0, 1) := by decide +kernel
theorem dX12_findSets_84 : decode cX12_findSets 84 = .ok (.getfield 52, 3) := by decide +kernel
theorem dX12_findSets_87 : decode cX12_findSets 87 = .ok (.iload_n 3, 1) := by decide +kernel
theorem dX12_findSets_88 : decode cX12_findSets 88 = .ok (.aload_n 0, 1) := by decide +kernel
theorem dX12_findSets_89 : decode cX12_findSets 89 = .ok (.getfield 52, 3) := by decide +kernel
theorem dX12_findSets_92 : decode cX12_findSets 92 = .ok (.iload 5, 2) := by decide +kernel
theorem dX12_findSets_94 : decode cX12_findSets 94 = .ok (.baload, 1) := by decide +kernel
theorem dX12_findSets_95 : decode cX12_findSets 95 = .ok (.ifCond .eq 30, 3) := by decide +kernel
theorem dX12_findSets_98 : decode cX12_findSets 98 = .ok (.iload_n 2, 1) := by decide +kernel
theorem dX12_findSets_99 : decode cX12_findSets 99 = .ok (.iload 4, 2) := by decide +kernel
theorem dX12_findSets_101 : decode cX12_findSets 101 = .ok (.ishr, 1) := by decide +kernel
theorem dX12_findSets_102 : decode cX12_findSets 102 = .ok (.iconst 1, 1) := by decide +kernel
theorem dX12_findSets_103 : decode cX12_findSets 103 = .ok (.iand, 1) := by decide +kernel
theorem dX12_findSets_104 : decode cX12_findSets 104 = .ok (.iconst 1, 1) := by decide +kernel
theorem dX12_findSets_105 : decode cX12_findSets 105 = .ok (.if_icmp .ne 20, 3) := by decide +kernel
theorem dX12_findSets_108 : decode cX12_findSets 108 = .ok (.aload_n 0, 1) := by decide +kernel
theorem dX12_findSets_109 : decode cX12_findSets 109 = .ok (.getfield 19, 3) := by decide +kernel
theorem dX12_findSets_112 : decode cX12_findSets 112 = .ok (.iload 4, 2) := by decide +kernel
theorem dX12_findSets_114 : decode cX12_findSets 114 = .ok (.iaload, 1) := by decide +kernel
theorem dX12_findSets_115 : decode cX12_findSets 115 = .ok (.iload 5, 2) := by decide +kernel
theorem dX12_findSets_117 : decode cX12_findSets 117 = .ok (.iand, 1) := by decide +kernel
theorem dX12_findSets_118 : decode cX12_findSets 118 = .ok (.ifCond .ne 7, 3) := by decide +kernel
theorem dX12_findSets_121 : decode cX12_findSets 121 = .ok (.iconst 1, 1) := by decide +kernel
theorem dX12_findSets_122 : decode cX12_findSets 122 = .ok (.goto 4, 3) := by decide +kernel
theorem dX12_findSets_125 : decode cX12_findSets 125 = .ok (.iconst 0, 1) := by decide +kernel
theorem dX12_findSets_126 : decode cX12_findSets 126 = .ok (.bastore, 1) := by decide +kernel
theorem dX12_findSets_127 : decode cX12_findSets 127 = .ok (.iinc 3 1, 3) := by decide +kernel
theorem dX12_findSets_130 : decode cX12_findSets 130 = .ok (.goto (-82), 3) := by decide +kernel
theorem dX12_findSets_133 : decode cX12_findSets 133 = .ok (.return_, 1) := by decide +kernel
theorem dX12_findCosts_0 : decode cX12_findCosts 0 = .ok (.iconst 0, 1) := by decide +kernel
theorem dX12_findCosts_1 : decode cX12_findCosts 1 = .ok (.istore_n 3, 1) := by decide +kernel
theorem dX12_findCosts_2 : decode cX12_findCosts 2 = .ok (.iload_n 3, 1) := by decide +kernel
theorem dX12_findCosts_3 : decode cX12_findCosts 3 = .ok (.aload_n 0, 1) := by decide +kernel
theorem dX12_findCosts_4 : decode cX12_findCosts 4 = .ok (.getfield 7, 3) := by decide +kernel
theorem dX12_findCosts_7 : decode cX12_findCosts 7 = .ok (.iconst 1, 1) := by decide +kernel
theorem dX12_findCosts_8 : decode cX12_findCosts 8 = .ok (.iaload, 1) := by decide +kernel
theorem dX12_findCosts_9 : decode cX12_findCosts 9 = .ok (.if_icmp .ge 90, 3) := by decide +kernel
theorem dX12_findCosts_12 : decode cX12_findCosts 12 = .ok (.aload_n 0, 1) := by decide +kernel
theorem dX12_findCosts_13 : decode cX12_findCosts 13 = .ok (.getfield 66, 3) := by decide +kernel
theorem dX12_findCosts_16 : decode cX12_findCosts 16 = .ok (.iload_n 3, 1) := by decide +kernel
theorem dX12_findCosts_17 : decode cX12_findCosts 17 = .ok (.iload_n 2, 1) := by decide +kernel
theorem dX12_findCosts_18 : decode cX12_findCosts 18 = .ok (.ifCond .ne 13, 3) := by decide +kernel
theorem dX12_findCosts_21 : decode cX12_findCosts 21 = .ok (.aload_n 0, 1) := by decide +kernel
theorem dX12_findCosts_22 : decode cX12_findCosts 22 = .ok (.iload_n 1, 1) := by decide +kernel
theorem dX12_findCosts_23 : decode cX12_findCosts 23 = .ok (.iload_n 3, 1) := by decide +kernel
theorem dX12_findCosts_24 : decode cX12_findCosts 24 = .ok (.invokevirtual 163, 3) := by decide +kernel
theorem dX12_findCosts_27 : decode cX12_findCosts 27 = .ok (.ineg, 1) := by decide +kernel
theorem dX12_findCosts_28 : decode cX12_findCosts 28 = .ok (.goto 64, 3) := by decide +kernel
theorem dX12_findCosts_31 : decode cX12_findCosts 31 = .ok (.iload_n 2, 1) := by decide +kernel
theorem dX12_findCosts_32 : decode cX12_findCosts 32 = .ok (.iconst 1, 1) := by decide +kernel
theorem dX12_findCosts_33 : decode cX12_findCosts 33 = .ok (.if_icmp .ne 30, 3) := by decide +kernel
theorem dX12_findCosts_36 : decode cX12_findCosts 36 = .ok (.aload_n 0, 1) := by decide +kernel
theorem dX12_findCosts_37 : decode cX12_findCosts 37 = .ok (.iload_n 1, 1) := by decide +kernel
theorem dX12_findCosts_38 : decode cX12_findCosts 38 = .ok (.iconst 2, 1) := by decide +kernel
theorem dX12_findCosts_39 : decode cX12_findCosts 39 = .ok (.invokevirtual 148, 3) := by decide +kernel
theorem dX12_findCosts_42 : decode cX12_findCosts 42 = .ok (.iload_n 3, 1) := by decide +kernel
theorem dX12_findCosts_43 : decode cX12_findCosts 43 = .ok (.ishr, 1) := by decide +kernel
theorem dX12_findCosts_44 : decode cX12_findCosts 44 = .ok (.iconst 1, 1) := by decide +kernel
theorem dX12_findCosts_45 : decode cX12_findCosts 45 = .ok (.iand, 1) := by decide +kernel
theorem dX12_findCosts_46 : decode cX12_findCosts 46 = .ok (.iconst 1, 1) := by decide +kernel
theorem dX12_findCosts_47 : decode cX12_findCosts 47 = .ok (.if_icmp .ne 7, 3) := by decide +kernel
theorem dX12_findCosts_50 : decode cX12_findCosts 50 = .ok (.iconst 0, 1) := by decide +kernel
theorem dX12_findCosts_51 : decode cX12_findCosts 51 = .ok (.goto 41, 3) := by decide +kernel
theorem dX12_findCosts_54 : decode cX12_findCosts 54 = .ok (.aload_n 0, 1) := by decide +kernel
theorem dX12_findCosts_55 : decode cX12_findCosts 55 = .ok (.getfield 69, 3) := by decide +kernel
theorem dX12_findCosts_58 : decode cX12_findCosts 58 = .ok (.iload_n 3, 1) := by decide +kernel
theorem dX12_findCosts_59 : decode cX12_findCosts 59 = .ok (.iaload, 1) := by decide +kernel
theorem dX12_findCosts_60 : decode cX12_findCosts 60 = .ok (.goto 32, 3) := by decide +kernel
theorem dX12_findCosts_63 : decode cX12_findCosts 63 = .ok (.iload_n 2, 1) := by decide +kernel
theorem dX12_findCosts_64 : decode cX12_findCosts 64 = .ok (.iconst 2, 1) := by decide +kernel
theorem dX12_findCosts_65 : decode cX12_findCosts 65 = .ok (.if_icmp .ne 12, 3) := by decide +kernel
theorem dX12_findCosts_68 : decode cX12_findCosts 68 = .ok (.aload_n 0, 1) := by decide +kernel
theorem dX12_findCosts_69 : decode cX12_findCosts 69 = .ok (.getfield 69, 3) := by decide +kernel
theorem dX12_findCosts_72 : decode cX12_findCosts 72 = .ok (.iload_n 3, 1) := by decide +kernel
theorem dX12_findCosts_73 : decode cX12_findCosts 73 = .ok (.iaload, 1) := by decide +kernel
theorem dX12_findCosts_74 : decode cX12_findCosts 74 = .ok (.goto 18, 3) := by decide +kernel
theorem dX12_findCosts_77 : decode cX12_findCosts 77 = .ok (.aload_n 0, 1) := by decide +kernel
theorem dX12_findCosts_78 : decode cX12_findCosts 78 = .ok (.iload_n 3, 1) := by decide +kernel
theorem dX12_findCosts_79 : decode cX12_findCosts 79 = .ok (.iconst 4, 1) := by decide +kernel
theorem dX12_findCosts_80 : decode cX12_findCosts 80 = .ok (.invokevirtual 114, 3) := by decide +kernel
theorem dX12_findCosts_83 : decode cX12_findCosts 83 = .ok (.iload_n 1, 1) := by decide +kernel
theorem dX12_findCosts_84 : decode cX12_findCosts 84 = .ok (.if_icmp .ne 7, 3) := by decide +kernel
theorem dX12_findCosts_87 : decode cX12_findCosts 87 = .ok (.iconst 0, 1) := by decide +kernel
theorem dX12_findCosts_88 : decode cX12_findCosts 88 = .ok (.goto 4, 3) := by decide +kernel
theorem dX12_findCosts_91 : decode cX12_findCosts 91 = .ok (.iconst 1, 1) := by decide +kernel
theorem dX12_findCosts_92 : decode cX12_findCosts 92 = .ok (.iastore, 1) := by decide +kernel
theorem dX12_findCosts_93 : decode cX12_findCosts 93 = .ok (.iinc 3 1, 3) := by decide +kernel
theorem dX12_findCosts_96 : decode cX12_findCosts 96 = .ok (.goto (-94), 3) := by decide +kernel
theorem dX12_findCosts_99 : decode cX12_findCosts 99 = .ok (.aload_n 0, 1) := by decide +kernel
theorem dX12_findCosts_100 : decode cX12_findCosts 100 = .ok (.getfield 56, 3) := by decide +kernel
theorem dX12_findCosts_103 : decode cX12_findCosts 103 = .ok (.iconst 0, 1) := by decide +kernel
theorem dX12_findCosts_104 : decode cX12_findCosts 104 = .ok (.iconst 0, 1) := by decide +kernel
theorem dX12_findCosts_105 : decode cX12_findCosts 105 = .ok (.iastore, 1) := by decide +kernel
theorem dX12_findCosts_106 : decode cX12_findCosts 106 = .ok (.iconst 1, 1) := by decide +kernel
theorem dX12_findCosts_107 : decode cX12_findCosts 107 = .ok (.istore_n 3, 1) := by decide +kernel
theorem dX12_findCosts_108 : decode cX12_findCosts 108 = .ok (.iload_n 3, 1) := by decide +kernel
theorem dX12_findCosts_109 : decode cX12_findCosts 109 = .ok (.aload_n 0, 1) := by decide +kernel
theorem dX12_findCosts_110 : decode cX12_findCosts 110 = .ok (.invokevirtual 249, 3) := by decide +kernel
theorem dX12_findCosts_113 : decode cX12_findCosts 113 = .ok (.if_icmp .gt 53, 3) := by decide +kernel
theorem dX12_findCosts_116 : decode cX12_findCosts 116 = .ok (.iconst 0, 1) := by decide +kernel
theorem dX12_findCosts_117 : decode cX12_findCosts 117 = .ok (.istore 4, 2) := by decide +kernel
theorem dX12_findCosts_119 : decode cX12_findCosts 119 = .ok (.iload_n 3, 1) := by decide +kernel
theorem dX12_findCosts_120 : decode cX12_findCosts 120 = .ok (.iload 4, 2) := by decide +kernel
theorem dX12_findCosts_122 : decode cX12_findCosts 122 = .ok (.ishr, 1) := by decide +kernel
theorem dX12_findCosts_123 : decode cX12_findCosts 123 = .ok (.iconst 1, 1) := by decide +kernel
theorem dX12_findCosts_124 : decode cX12_findCosts 124 = .ok (.if_icmp .le 9, 3) := by decide +kernel
theorem dX12_findCosts_127 : decode cX12_findCosts 127 = .ok (.iinc 4 1, 3) := by decide +kernel
theorem dX12_findCosts_130 : decode cX12_findCosts 130 = .ok (.goto (-11), 3) := by decide +kernel
theorem dX12_findCosts_133 : decode cX12_findCosts 133 = .ok (.aload_n 0, 1) := by decide +kernel
theorem dX12_findCosts_134 : decode cX12_findCosts 134 = .ok (.getfield 56, 3) := by decide +kernel
theorem dX12_findCosts_137 : decode cX12_findCosts 137 = .ok (.iload_n 3, 1) := by decide +kernel
theorem dX12_findCosts_138 : decode cX12_findCosts 138 = .ok (.aload_n 0, 1) := by decide +kernel
theorem dX12_findCosts_139 : decode cX12_findCosts 139 = .ok (.getfield 56, 3) := by decide +kernel
theorem dX12_findCosts_142 : decode cX12_findCosts 142 = .ok (.iload_n 3, 1) := by decide +kernel
theorem dX12_findCosts_143 : decode cX12_findCosts 143 = .ok (.iconst 1, 1) := by decide +kernel
theorem dX12_findCosts_144 : decode cX12_findCosts 144 = .ok (.iload 4, 2) := by decide +kernel
theorem dX12_findCosts_146 : decode cX12_findCosts 146 = .ok (.ishl, 1) := by decide +kernel
theorem dX12_findCosts_147 : decode cX12_findCosts 147 = .ok (.iconst (-1), 1) := by decide +kernel
theorem dX12_findCosts_148 : decode cX12_findCosts 148 = .ok (.ixor, 1) := by decide +kernel
theorem dX12_findCosts_149 : decode cX12_findCosts 149 = .ok (.iand, 1) := by decide +kernel
theorem dX12_findCosts_150 : decode cX12_findCosts 150 = .ok (.iaload, 1) := by decide +kernel
theorem dX12_findCosts_151 : decode cX12_findCosts 151 = .ok (.aload_n 0, 1) := by decide +kernel
theorem dX12_findCosts_152 : decode cX12_findCosts 152 = .ok (.getfield 66, 3) := by decide +kernel
theorem dX12_findCosts_155 : decode cX12_findCosts 155 = .ok (.iload 4, 2) := by decide +kernel
theorem dX12_findCosts_157 : decode cX12_findCosts 157 = .ok (.iaload, 1) := by decide +kernel
theorem dX12_findCosts_158 : decode cX12_findCosts 158 = .ok (.iadd, 1) := by decide +kernel
theorem dX12_findCosts_159 : decode cX12_findCosts 159 = .ok (.iastore, 1) := by decide +kernel
theorem dX12_findCosts_160 : decode cX12_findCosts 160 = .ok (.iinc 3 1, 3) := by decide +kernel
theorem dX12_findCosts_163 : decode cX12_findCosts 163 = .ok (.goto (-55), 3) := by decide +kernel
theorem dX12_findCosts_166 : decode cX12_findCosts 166 = .ok (.return_, 1) := by decide +kernel
theorem dX12_joined_0 : decode cX12_joined 0 = .ok (.iload_n 0, 1) := by decide +kernel
theorem dX12_joined_1 : decode cX12_joined 1 = .ok (.iconst 2, 1) := by decide +kernel
theorem dX12_joined_2 : decode cX12_joined 2 = .ok (.if_icmp .eq 9, 3) := by decide +kernel
theorem dX12_joined_5 : decode cX12_joined 5 = .ok (.iload_n 1, 1) := by decide +kernel
theorem dX12_joined_6 : decode cX12_joined 6 = .ok (.iload_n 2, 1) := by decide +kernel
theorem dX12_joined_7 : decode cX12_joined 7 = .ok (.iadd, 1) := by decide +kernel
theorem dX12_joined_8 : decode cX12_joined 8 = .ok (.goto 13, 3) := by decide +kernel
theorem dX12_joined_11 : decode cX12_joined 11 = .ok (.iload_n 1, 1) := by decide +kernel
theorem dX12_joined_12 : decode cX12_joined 12 = .ok (.iload_n 2, 1) := by decide +kernel
theorem dX12_joined_13 : decode cX12_joined 13 = .ok (.if_icmp .le 7, 3) := by decide +kernel
theorem dX12_joined_16 : decode cX12_joined 16 = .ok (.iload_n 1, 1) := by decide +kernel
theorem dX12_joined_17 : decode cX12_joined 17 = .ok (.goto 4, 3) := by decide +kernel
theorem dX12_joined_20 : decode cX12_joined 20 = .ok (.iload_n 2, 1) := by decide +kernel
theorem dX12_joined_21 : decode cX12_joined 21 = .ok (.ireturn, 1) := by decide +kernel
theorem dX12_findSums_0 : decode cX12_findSums 0 = .ok (.aload_n 0, 1) := by decide +kernel
theorem dX12_findSums_1 : decode cX12_findSums 1 = .ok (.invokevirtual 237, 3) := by decide +kernel
theorem dX12_findSums_4 : decode cX12_findSums 4 = .ok (.iconst 0, 1) := by decide +kernel
theorem dX12_findSums_5 : decode cX12_findSums 5 = .ok (.istore_n 3, 1) := by decide +kernel
theorem dX12_findSums_6 : decode cX12_findSums 6 = .ok (.iload_n 3, 1) := by decide +kernel
theorem dX12_findSums_7 : decode cX12_findSums 7 = .ok (.aload_n 0, 1) := by decide +kernel
theorem dX12_findSums_8 : decode cX12_findSums 8 = .ok (.getfield 7, 3) := by decide +kernel
theorem dX12_findSums_11 : decode cX12_findSums 11 = .ok (.iconst 1, 1) := by decide +kernel
theorem dX12_findSums_12 : decode cX12_findSums 12 = .ok (.iaload, 1) := by decide +kernel
theorem dX12_findSums_13 : decode cX12_findSums 13 = .ok (.if_icmp .ge 20, 3) := by decide +kernel
theorem dX12_findSums_16 : decode cX12_findSums 16 = .ok (.aload_n 0, 1) := by decide +kernel
theorem dX12_findSums_17 : decode cX12_findSums 17 = .ok (.getfield 69, 3) := by decide +kernel
theorem dX12_findSums_20 : decode cX12_findSums 20 = .ok (.iload_n 3, 1) := by decide +kernel
theorem dX12_findSums_21 : decode cX12_findSums 21 = .ok (.aload_n 0, 1) := by decide +kernel
theorem dX12_findSums_22 : decode cX12_findSums 22 = .ok (.iload_n 3, 1) := by decide +kernel
theorem dX12_findSums_23 : decode cX12_findSums 23 = .ok (.invokevirtual 121, 3) := by decide +kernel
theorem dX12_findSums_26 : decode cX12_findSums 26 = .ok (.iastore, 1) := by decide +kernel
theorem dX12_findSums_27 : decode cX12_findSums 27 = .ok (.iinc 3 1, 3) := by decide +kernel
theorem dX12_findSums_30 : decode cX12_findSums 30 = .ok (.goto (-24), 3) := by decide +kernel
theorem dX12_findSums_33 : decode cX12_findSums 33 = .ok (.iconst 0, 1) := by decide +kernel
theorem dX12_findSums_34 : decode cX12_findSums 34 = .ok (.istore_n 3, 1) := by decide +kernel
theorem dX12_findSums_35 : decode cX12_findSums 35 = .ok (.iload_n 3, 1) := by decide +kernel
theorem dX12_findSums_36 : decode cX12_findSums 36 = .ok (.sipush 1024, 3) := by decide +kernel
theorem dX12_findSums_39 : decode cX12_findSums 39 = .ok (.if_icmp .ge 29, 3) := by decide +kernel
theorem dX12_findSums_42 : decode cX12_findSums 42 = .ok (.aload_n 0, 1) := by decide +kernel
theorem dX12_findSums_43 : decode cX12_findSums 43 = .ok (.getfield 59, 3) := by decide +kernel
theorem dX12_findSums_46 : decode cX12_findSums 46 = .ok (.sipush 6144, 3) := by decide +kernel
theorem dX12_findSums_49 : decode cX12_findSums 49 = .ok (.iload_n 3, 1) := by decide +kernel
theorem dX12_findSums_50 : decode cX12_findSums 50 = .ok (.iadd, 1) := by decide +kernel
theorem dX12_findSums_51 : decode cX12_findSums 51 = .ok (.iload_n 3, 1) := by decide +kernel
theorem dX12_findSums_52 : decode cX12_findSums 52 = .ok (.ifCond .ne 7, 3) := by decide +kernel
theorem dX12_findSums_55 : decode cX12_findSums 55 = .ok (.iconst 0, 1) := by decide +kernel
theorem dX12_findSums_56 : decode cX12_findSums 56 = .ok (.goto 5, 3) := by decide +kernel
theorem dX12_findSums_59 : decode cX12_findSums 59 = .ok (.ldc 255, 2) := by decide +kernel
theorem dX12_findSums_61 : decode cX12_findSums 61 = .ok (.iastore, 1) := by decide +kernel
theorem dX12_findSums_62 : decode cX12_findSums 62 = .ok (.iinc 3 1, 3) := by decide +kernel
theorem dX12_findSums_65 : decode cX12_findSums 65 = .ok (.goto (-30), 3) := by decide +kernel
theorem dX12_findSums_68 : decode cX12_findSums 68 = .ok (.iconst 5, 1) := by decide +kernel
theorem dX12_findSums_69 : decode cX12_findSums 69 = .ok (.istore_n 3, 1) := by decide +kernel
theorem dX12_findSums_70 : decode cX12_findSums 70 = .ok (.iload_n 3, 1) := by decide +kernel
theorem dX12_findSums_71 : decode cX12_findSums 71 = .ok (.ifCond .lt 191, 3) := by decide +kernel
theorem dX12_findSums_74 : decode cX12_findSums 74 = .ok (.iload_n 2, 1) := by decide +kernel
theorem dX12_findSums_75 : decode cX12_findSums 75 = .ok (.iload_n 3, 1) := by decide +kernel
theorem dX12_findSums_76 : decode cX12_findSums 76 = .ok (.ishr, 1) := by decide +kernel
theorem dX12_findSums_77 : decode cX12_findSums 77 = .ok (.iconst 1, 1) := by decide +kernel
theorem dX12_findSums_78 : decode cX12_findSums 78 = .ok (.iand, 1) := by decide +kernel
theorem dX12_findSums_79 : decode cX12_findSums 79 = .ok (.iconst 1, 1) := by decide +kernel
theorem dX12_findSums_80 : decode cX12_findSums 80 = .ok (.if_icmp .ne 7, 3) := by decide +kernel
theorem dX12_findSums_83 : decode cX12_findSums 83 = .ok (.iconst 1, 1) := by decide +kernel
theorem dX12_findSums_84 : decode cX12_findSums 84 = .ok (.goto 4, 3) := by decide +kernel
theorem dX12_findSums_87 : decode cX12_findSums 87 = .ok (.iconst 0, 1) := by decide +kernel
theorem dX12_findSums_88 : decode cX12_findSums 88 = .ok (.istore 4, 2) := by decide +kernel
theorem dX12_findSums_90 : decode cX12_findSums 90 = .ok (.iload 4, 2) := by decide +kernel
theorem dX12_findSums_92 : decode cX12_findSums 92 = .ok (.ifCond .eq 14, 3) := by decide +kernel
theorem dX12_findSums_95 : decode cX12_findSums 95 = .ok (.aload_n 0, 1) := by decide +kernel
theorem dX12_findSums_96 : decode cX12_findSums 96 = .ok (.iload_n 3, 1) := by decide +kernel
theorem dX12_findSums_97 : decode cX12_findSums 97 = .ok (.invokevirtual 256, 3) := by decide +kernel
theorem dX12_findSums_100 : decode cX12_findSums 100 = .ok (.aload_n 0, 1) := by decide +kernel
theorem dX12_findSums_101 : decode cX12_findSums 101 = .ok (.iload_n 3, 1) := by decide +kernel
theorem dX12_findSums_102 : decode cX12_findSums 102 = .ok (.iload_n 1, 1) := by decide +kernel
theorem dX12_findSums_103 : decode cX12_findSums 103 = .ok (.invokevirtual 259, 3) := by decide +kernel
theorem dX12_findSums_106 : decode cX12_findSums 106 = .ok (.iconst 0, 1) := by decide +kernel
theorem dX12_findSums_107 : decode cX12_findSums 107 = .ok (.istore 5, 2) := by decide +kernel
theorem dX12_findSums_109 : decode cX12_findSums 109 = .ok (.iload 5, 2) := by decide +kernel
theorem dX12_findSums_111 : decode cX12_findSums 111 = .ok (.aload_n 0, 1) := by decide +kernel
theorem dX12_findSums_112 : decode cX12_findSums 112 = .ok (.invokevirtual 249, 3) := by decide +kernel
theorem dX12_findSums_115 : decode cX12_findSums 115 = .ok (.if_icmp .gt 141, 3) := by decide +kernel
theorem dX12_findSums_118 : decode cX12_findSums 118 = .ok (.aload_n 0, 1) := by decide +kernel
theorem dX12_findSums_119 : decode cX12_findSums 119 = .ok (.getfield 59, 3) := by decide +kernel
theorem dX12_findSums_122 : decode cX12_findSums 122 = .ok (.sipush 1024, 3) := by decide +kernel
theorem dX12_findSums_125 : decode cX12_findSums 125 = .ok (.iload_n 3, 1) := by decide +kernel
theorem dX12_findSums_126 : decode cX12_findSums 126 = .ok (.iconst 1, 1) := by decide +kernel
theorem dX12_findSums_127 : decode cX12_findSums 127 = .ok (.iadd, 1) := by decide +kernel
theorem dX12_findSums_128 : decode cX12_findSums 128 = .ok (.imul, 1) := by decide +kernel
theorem dX12_findSums_129 : decode cX12_findSums 129 = .ok (.iload 5, 2) := by decide +kernel
theorem dX12_findSums_131 : decode cX12_findSums 131 = .ok (.iadd, 1) := by decide +kernel
theorem dX12_findSums_132 : decode cX12_findSums 132 = .ok (.iaload, 1) := by decide +kernel
theorem dX12_findSums_133 : decode cX12_findSums 133 = .ok (.istore 6, 2) := by decide +kernel
theorem dX12_findSums_135 : decode cX12_findSums 135 = .ok (.iload 4, 2) := by decide +kernel
theorem dX12_findSums_137 : decode cX12_findSums 137 = .ok (.ifCond .eq 8, 3) := by decide +kernel
theorem dX12_findSums_140 : decode cX12_findSums 140 = .ok (.iload 5, 2) := by decide +kernel
theorem dX12_findSums_142 : decode cX12_findSums 142 = .ok (.goto 4, 3) := by decide +kernel
theorem dX12_findSums_145 : decode cX12_findSums 145 = .ok (.iconst 0, 1) := by decide +kernel
theorem dX12_findSums_146 : decode cX12_findSums 146 = .ok (.istore 7, 2) := by decide +kernel
theorem dX12_findSums_148 : decode cX12_findSums 148 = .ok (.iload 7, 2) := by decide +kernel
theorem dX12_findSums_150 : decode cX12_findSums 150 = .ok (.ifCond .le 85, 3) := by decide +kernel
theorem dX12_findSums_153 : decode cX12_findSums 153 = .ok (.aload_n 0, 1) := by decide +kernel
theorem dX12_findSums_154 : decode cX12_findSums 154 = .ok (.getfield 59, 3) := by decide +kernel
theorem dX12_findSums_157 : decode cX12_findSums 157 = .ok (.sipush 1024, 3) := by decide +kernel
theorem dX12_findSums_160 : decode cX12_findSums 160 = .ok (.iload_n 3, 1) := by decide +kernel
theorem dX12_findSums_161 : decode cX12_findSums 161 = .ok (.iconst 1, 1) := by decide +kernel
theorem dX12_findSums_162 : decode cX12_findSums 162 = .ok (.iadd, 1) := by decide +kernel
theorem dX12_findSums_163 : decode cX12_findSums 163 = .ok (.imul, 1) := by decide +kernel
theorem dX12_findSums_164 : decode cX12_findSums 164 = .ok (.iload 5, 2) := by decide +kernel
theorem dX12_findSums_166 : decode cX12_findSums 166 = .ok (.iload 7, 2) := by decide +kernel
theorem dX12_findSums_168 : decode cX12_findSums 168 = .ok (.iconst (-1), 1) := by decide +kernel
theorem dX12_findSums_169 : decode cX12_findSums 169 = .ok (.ixor, 1) := by decide +kernel
theorem dX12_findSums_170 : decode cX12_findSums 170 = .ok (.iand, 1) := by decide +kernel
theorem dX12_findSums_171 : decode cX12_findSums 171 = .ok (.iadd, 1) := by decide +kernel
theorem dX12_findSums_172 : decode cX12_findSums 172 = .ok (.iaload, 1) := by decide +kernel
theorem dX12_findSums_173 : decode cX12_findSums 173 = .ok (.istore 8, 2) := by decide +kernel
theorem dX12_findSums_175 : decode cX12_findSums 175 = .ok (.aload_n 0, 1) := by decide +kernel
theorem dX12_findSums_176 : decode cX12_findSums 176 = .ok (.getfield 52, 3) := by decide +kernel
theorem dX12_findSums_179 : decode cX12_findSums 179 = .ok (.iload 7, 2) := by decide +kernel
theorem dX12_findSums_181 : decode cX12_findSums 181 = .ok (.baload, 1) := by decide +kernel
theorem dX12_findSums_182 : decode cX12_findSums 182 = .ok (.ifCond .eq 41, 3) := by decide +kernel
theorem dX12_findSums_185 : decode cX12_findSums 185 = .ok (.iload 8, 2) := by decide +kernel
theorem dX12_findSums_187 : decode cX12_findSums 187 = .ok (.ldc 255, 2) := by decide +kernel
theorem dX12_findSums_189 : decode cX12_findSums 189 = .ok (.if_icmp .ge 34, 3) := by decide +kernel
theorem dX12_findSums_192 : decode cX12_findSums 192 = .ok (.iload_n 1, 1) := by decide +kernel
theorem dX12_findSums_193 : decode cX12_findSums 193 = .ok (.aload_n 0, 1) := by decide +kernel
theorem dX12_findSums_194 : decode cX12_findSums 194 = .ok (.getfield 56, 3) := by decide +kernel
theorem dX12_findSums_197 : decode cX12_findSums 197 = .ok (.iload 7, 2) := by decide +kernel
theorem dX12_findSums_199 : decode cX12_findSums 199 = .ok (.iaload, 1) := by decide +kernel
theorem dX12_findSums_200 : decode cX12_findSums 200 = .ok (.iload 8, 2) := by decide +kernel
theorem dX12_findSums_202 : decode cX12_findSums 202 = .ok (.invokestatic 262, 3) := by decide +kernel
theorem dX12_findSums_205 : decode cX12_findSums 205 = .ok (.istore 9, 2) := by decide +kernel
theorem dX12_findSums_207 : decode cX12_findSums 207 = .ok (.iload 9, 2) := by decide +kernel
theorem dX12_findSums_209 : decode cX12_findSums 209 = .ok (.iload 6, 2) := by decide +kernel
theorem dX12_findSums_211 : decode cX12_findSums 211 = .ok (.if_icmp .ge 8, 3) := by decide +kernel
theorem dX12_findSums_214 : decode cX12_findSums 214 = .ok (.iload 9, 2) := by decide +kernel
theorem dX12_findSums_216 : decode cX12_findSums 216 = .ok (.goto 5, 3) := by decide +kernel
theorem dX12_findSums_219 : decode cX12_findSums 219 = .ok (.iload 6, 2) := by decide +kernel
theorem dX12_findSums_221 : decode cX12_findSums 221 = .ok (.istore 6, 2) := by decide +kernel
theorem dX12_findSums_223 : decode cX12_findSums 223 = .ok (.iload 7, 2) := by decide +kernel
theorem dX12_findSums_225 : decode cX12_findSums 225 = .ok (.iconst 1, 1) := by decide +kernel
theorem dX12_findSums_226 : decode cX12_findSums 226 = .ok (.isub, 1) := by decide +kernel
theorem dX12_findSums_227 : decode cX12_findSums 227 = .ok (.iload 5, 2) := by decide +kernel
theorem dX12_findSums_229 : decode cX12_findSums 229 = .ok (.iand, 1) := by decide +kernel
theorem dX12_findSums_230 : decode cX12_findSums 230 = .ok (.istore 7, 2) := by decide +kernel
theorem dX12_findSums_232 : decode cX12_findSums 232 = .ok (.goto (-84), 3) := by decide +kernel
theorem dX12_findSums_235 : decode cX12_findSums 235 = .ok (.aload_n 0, 1) := by decide +kernel
theorem dX12_findSums_236 : decode cX12_findSums 236 = .ok (.getfield 59, 3) := by decide +kernel
theorem dX12_findSums_239 : decode cX12_findSums 239 = .ok (.sipush 1024, 3) := by decide +kernel
theorem dX12_findSums_242 : decode cX12_findSums 242 = .ok (.iload_n 3, 1) := by decide +kernel
theorem dX12_findSums_243 : decode cX12_findSums 243 = .ok (.imul, 1) := by decide +kernel
theorem dX12_findSums_244 : decode cX12_findSums 244 = .ok (.iload 5, 2) := by decide +kernel
theorem dX12_findSums_246 : decode cX12_findSums 246 = .ok (.iadd, 1) := by decide +kernel
theorem dX12_findSums_247 : decode cX12_findSums 247 = .ok (.iload 6, 2) := by decide +kernel
theorem dX12_findSums_249 : decode cX12_findSums 249 = .ok (.iastore, 1) := by decide +kernel
theorem dX12_findSums_250 : decode cX12_findSums 250 = .ok (.iinc 5 1, 3) := by decide +kernel
theorem dX12_findSums_253 : decode cX12_findSums 253 = .ok (.goto (-144), 3) := by decide +kernel
theorem dX12_findSums_256 : decode cX12_findSums 256 = .ok (.iinc 3 (-1), 3) := by decide +kernel
theorem dX12_findSums_259 : decode cX12_findSums 259 = .ok (.goto (-189), 3) := by decide +kernel
theorem dX12_findSums_262 : decode cX12_findSums 262 = .ok (.return_, 1) := by decide +kernel
theorem dX12_findBest_0 : decode cX12_findBest 0 = .ok (.aload_n 0, 1) := by decide +kernel
theorem dX12_findBest_1 : decode cX12_findBest 1 = .ok (.iload_n 1, 1) := by decide +kernel
theorem dX12_findBest_2 : decode cX12_findBest 2 = .ok (.iload_n 2, 1) := by decide +kernel
theorem dX12_findBest_3 : decode cX12_findBest 3 = .ok (.invokevirtual 265, 3) := by decide +kernel
theorem dX12_findBest_6 : decode cX12_findBest 6 = .ok (.aload_n 0, 1) := by decide +kernel
theorem dX12_findBest_7 : decode cX12_findBest 7 = .ok (.invokevirtual 249, 3) := by decide +kernel
theorem dX12_findBest_10 : decode cX12_findBest 10 = .ok (.istore_n 3, 1) := by decide +kernel
theorem dX12_findBest_11 : decode cX12_findBest 11 = .ok (.aload_n 0, 1) := by decide +kernel
theorem dX12_findBest_12 : decode cX12_findBest 12 = .ok (.getfield 59, 3) := by decide +kernel
theorem dX12_findBest_15 : decode cX12_findBest 15 = .ok (.iload_n 3, 1) := by decide +kernel
theorem dX12_findBest_16 : decode cX12_findBest 16 = .ok (.iaload, 1) := by decide +kernel
theorem dX12_findBest_17 : decode cX12_findBest 17 = .ok (.istore 4, 2) := by decide +kernel
theorem dX12_findBest_19 : decode cX12_findBest 19 = .ok (.iload 4, 2) := by decide +kernel
theorem dX12_findBest_21 : decode cX12_findBest 21 = .ok (.ldc 255, 2) := by decide +kernel
theorem dX12_findBest_23 : decode cX12_findBest 23 = .ok (.if_icmp .ne 5, 3) := by decide +kernel
theorem dX12_findBest_26 : decode cX12_findBest 26 = .ok (.iconst 0, 1) := by decide +kernel
theorem dX12_findBest_27 : decode cX12_findBest 27 = .ok (.ireturn, 1) := by decide +kernel
theorem dX12_findBest_28 : decode cX12_findBest 28 = .ok (.iconst 0, 1) := by decide +kernel
theorem dX12_findBest_29 : decode cX12_findBest 29 = .ok (.istore 5, 2) := by decide +kernel
theorem dX12_findBest_31 : decode cX12_findBest 31 = .ok (.iconst 0, 1) := by decide +kernel
theorem dX12_findBest_32 : decode cX12_findBest 32 = .ok (.istore 6, 2) := by decide +kernel
theorem dX12_findBest_34 : decode cX12_findBest 34 = .ok (.iload 6, 2) := by decide +kernel
theorem dX12_findBest_36 : decode cX12_findBest 36 = .ok (.bipush 6, 2) := by decide +kernel
theorem dX12_findBest_38 : decode cX12_findBest 38 = .ok (.if_icmp .ge 137, 3) := by decide +kernel
theorem dX12_findBest_41 : decode cX12_findBest 41 = .ok (.iload_n 2, 1) := by decide +kernel
theorem dX12_findBest_42 : decode cX12_findBest 42 = .ok (.iload 6, 2) := by decide +kernel
theorem dX12_findBest_44 : decode cX12_findBest 44 = .ok (.ishr, 1) := by decide +kernel
theorem dX12_findBest_45 : decode cX12_findBest 45 = .ok (.iconst 1, 1) := by decide +kernel
theorem dX12_findBest_46 : decode cX12_findBest 46 = .ok (.iand, 1) := by decide +kernel
theorem dX12_findBest_47 : decode cX12_findBest 47 = .ok (.ifCond .ne 6, 3) := by decide +kernel
theorem dX12_findBest_50 : decode cX12_findBest 50 = .ok (.goto 119, 3) := by decide +kernel
theorem dX12_findBest_53 : decode cX12_findBest 53 = .ok (.aload_n 0, 1) := by decide +kernel
theorem dX12_findBest_54 : decode cX12_findBest 54 = .ok (.iload 6, 2) := by decide +kernel
theorem dX12_findBest_56 : decode cX12_findBest 56 = .ok (.invokevirtual 256, 3) := by decide +kernel
theorem dX12_findBest_59 : decode cX12_findBest 59 = .ok (.aload_n 0, 1) := by decide +kernel
theorem dX12_findBest_60 : decode cX12_findBest 60 = .ok (.iload 6, 2) := by decide +kernel
theorem dX12_findBest_62 : decode cX12_findBest 62 = .ok (.iload_n 1, 1) := by decide +kernel
theorem dX12_findBest_63 : decode cX12_findBest 63 = .ok (.invokevirtual 259, 3) := by decide +kernel
theorem dX12_findBest_66 : decode cX12_findBest 66 = .ok (.iconst 0, 1) := by decide +kernel
theorem dX12_findBest_67 : decode cX12_findBest 67 = .ok (.istore 7, 2) := by decide +kernel
theorem dX12_findBest_69 : decode cX12_findBest 69 = .ok (.aload_n 0, 1) := by decide +kernel
theorem dX12_findBest_70 : decode cX12_findBest 70 = .ok (.iload_n 1, 1) := by decide +kernel
theorem dX12_findBest_71 : decode cX12_findBest 71 = .ok (.iload 6, 2) := by decide +kernel
theorem dX12_findBest_73 : decode cX12_findBest 73 = .ok (.iload_n 3, 1) := by decide +kernel
theorem dX12_findBest_74 : decode cX12_findBest 74 = .ok (.iload 7, 2) := by decide +kernel
theorem dX12_findBest_76 : decode cX12_findBest 76 = .ok (.iload 5, 2) := by decide +kernel
theorem dX12_findBest_78 : decode cX12_findBest 78 = .ok (.iload 4, 2) := by decide +kernel
theorem dX12_findBest_80 : decode cX12_findBest 80 = .ok (.invokevirtual 268, 3) := by decide +kernel
theorem dX12_findBest_83 : decode cX12_findBest 83 = .ok (.ifCond .ne 14, 3) := by decide +kernel
theorem dX12_findBest_86 : decode cX12_findBest 86 = .ok (.iload 7, 2) := by decide +kernel
theorem dX12_findBest_88 : decode cX12_findBest 88 = .ok (.iload_n 3, 1) := by decide +kernel
theorem dX12_findBest_89 : decode cX12_findBest 89 = .ok (.isub, 1) := by decide +kernel
theorem dX12_findBest_90 : decode cX12_findBest 90 = .ok (.iload_n 3, 1) := by decide +kernel
theorem dX12_findBest_91 : decode cX12_findBest 91 = .ok (.iand, 1) := by decide +kernel
theorem dX12_findBest_92 : decode cX12_findBest 92 = .ok (.istore 7, 2) := by decide +kernel
theorem dX12_findBest_94 : decode cX12_findBest 94 = .ok (.goto (-25), 3) := by decide +kernel
theorem dX12_findBest_97 : decode cX12_findBest 97 = .ok (.iconst 0, 1) := by decide +kernel
theorem dX12_findBest_98 : decode cX12_findBest 98 = .ok (.istore 8, 2) := by decide +kernel
theorem dX12_findBest_100 : decode cX12_findBest 100 = .ok (.iload 8, 2) := by decide +kernel
theorem dX12_findBest_102 : decode cX12_findBest 102 = .ok (.aload_n 0, 1) := by decide +kernel
theorem dX12_findBest_103 : decode cX12_findBest 103 = .ok (.getfield 7, 3) := by decide +kernel
theorem dX12_findBest_106 : decode cX12_findBest 106 = .ok (.iconst 1, 1) := by decide +kernel
theorem dX12_findBest_107 : decode cX12_findBest 107 = .ok (.iaload, 1) := by decide +kernel
theorem dX12_findBest_108 : decode cX12_findBest 108 = .ok (.if_icmp .ge 39, 3) := by decide +kernel
theorem dX12_findBest_111 : decode cX12_findBest 111 = .ok (.aload_n 0, 1) := by decide +kernel
theorem dX12_findBest_112 : decode cX12_findBest 112 = .ok (.getfield 72, 3) := by decide +kernel
theorem dX12_findBest_115 : decode cX12_findBest 115 = .ok (.iload 8, 2) := by decide +kernel
theorem dX12_findBest_117 : decode cX12_findBest 117 = .ok (.iload 7, 2) := by decide +kernel
theorem dX12_findBest_119 : decode cX12_findBest 119 = .ok (.iload 8, 2) := by decide +kernel
theorem dX12_findBest_121 : decode cX12_findBest 121 = .ok (.ishr, 1) := by decide +kernel
theorem dX12_findBest_122 : decode cX12_findBest 122 = .ok (.iconst 1, 1) := by decide +kernel
theorem dX12_findBest_123 : decode cX12_findBest 123 = .ok (.iand, 1) := by decide +kernel
theorem dX12_findBest_124 : decode cX12_findBest 124 = .ok (.iconst 1, 1) := by decide +kernel
theorem dX12_findBest_125 : decode cX12_findBest 125 = .ok (.if_icmp .ne 8, 3) := by decide +kernel
theorem dX12_findBest_128 : decode cX12_findBest 128 = .ok (.iload 6, 2) := by decide +kernel
theorem dX12_findBest_130 : decode cX12_findBest 130 = .ok (.goto 10, 3) := by decide +kernel
theorem dX12_findBest_133 : decode cX12_findBest 133 = .ok (.aload_n 0, 1) := by decide +kernel
theorem dX12_findBest_134 : decode cX12_findBest 134 = .ok (.getfield 72, 3) := by decide +kernel
theorem dX12_findBest_137 : decode cX12_findBest 137 = .ok (.iload 8, 2) := by decide +kernel
theorem dX12_findBest_139 : decode cX12_findBest 139 = .ok (.iaload, 1) := by decide +kernel
theorem dX12_findBest_140 : decode cX12_findBest 140 = .ok (.iastore, 1) := by decide +kernel
theorem dX12_findBest_141 : decode cX12_findBest 141 = .ok (.iinc 8 1, 3) := by decide +kernel
theorem dX12_findBest_144 : decode cX12_findBest 144 = .ok (.goto (-44), 3) := by decide +kernel
theorem dX12_findBest_147 : decode cX12_findBest 147 = .ok (.iload_n 1, 1) := by decide +kernel
theorem dX12_findBest_148 : decode cX12_findBest 148 = .ok (.iload 5, 2) := by decide +kernel
theorem dX12_findBest_150 : decode cX12_findBest 150 = .ok (.aload_n 0, 1) := by decide +kernel
theorem dX12_findBest_151 : decode cX12_findBest 151 = .ok (.getfield 56, 3) := by decide +kernel
theorem dX12_findBest_154 : decode cX12_findBest 154 = .ok (.iload 7, 2) := by decide +kernel
theorem dX12_findBest_156 : decode cX12_findBest 156 = .ok (.iaload, 1) := by decide +kernel
theorem dX12_findBest_157 : decode cX12_findBest 157 = .ok (.invokestatic 262, 3) := by decide +kernel
theorem dX12_findBest_160 : decode cX12_findBest 160 = .ok (.istore 5, 2) := by decide +kernel
theorem dX12_findBest_162 : decode cX12_findBest 162 = .ok (.iload_n 3, 1) := by decide +kernel
theorem dX12_findBest_163 : decode cX12_findBest 163 = .ok (.iload 7, 2) := by decide +kernel
theorem dX12_findBest_165 : decode cX12_findBest 165 = .ok (.iconst (-1), 1) := by decide +kernel
theorem dX12_findBest_166 : decode cX12_findBest 166 = .ok (.ixor, 1) := by decide +kernel
theorem dX12_findBest_167 : decode cX12_findBest 167 = .ok (.iand, 1) := by decide +kernel
theorem dX12_findBest_168 : decode cX12_findBest 168 = .ok (.istore_n 3, 1) := by decide +kernel
theorem dX12_findBest_169 : decode cX12_findBest 169 = .ok (.iinc 6 1, 3) := by decide +kernel
theorem dX12_findBest_172 : decode cX12_findBest 172 = .ok (.goto (-138), 3) := by decide +kernel
theorem dX12_findBest_175 : decode cX12_findBest 175 = .ok (.iconst 1, 1) := by decide +kernel
theorem dX12_findBest_176 : decode cX12_findBest 176 = .ok (.ireturn, 1) := by decide +kernel
theorem dX12_isBest_0 : decode cX12_isBest 0 = .ok (.aload_n 0, 1) := by decide +kernel
theorem dX12_isBest_1 : decode cX12_isBest 1 = .ok (.getfield 59, 3) := by decide +kernel
theorem dX12_isBest_4 : decode cX12_isBest 4 = .ok (.sipush 1024, 3) := by decide +kernel
theorem dX12_isBest_7 : decode cX12_isBest 7 = .ok (.iload_n 2, 1) := by decide +kernel
theorem dX12_isBest_8 : decode cX12_isBest 8 = .ok (.iconst 1, 1) := by decide +kernel
theorem dX12_isBest_9 : decode cX12_isBest 9 = .ok (.iadd, 1) := by decide +kernel
theorem dX12_isBest_10 : decode cX12_isBest 10 = .ok (.imul, 1) := by decide +kernel
theorem dX12_isBest_11 : decode cX12_isBest 11 = .ok (.iload_n 3, 1) := by decide +kernel
theorem dX12_isBest_12 : decode cX12_isBest 12 = .ok (.iload 4, 2) := by decide +kernel
theorem dX12_isBest_14 : decode cX12_isBest 14 = .ok (.iconst (-1), 1) := by decide +kernel
theorem dX12_isBest_15 : decode cX12_isBest 15 = .ok (.ixor, 1) := by decide +kernel
theorem dX12_isBest_16 : decode cX12_isBest 16 = .ok (.iand, 1) := by decide +kernel
theorem dX12_isBest_17 : decode cX12_isBest 17 = .ok (.iadd, 1) := by decide +kernel
theorem dX12_isBest_18 : decode cX12_isBest 18 = .ok (.iaload, 1) := by decide +kernel
theorem dX12_isBest_19 : decode cX12_isBest 19 = .ok (.istore 7, 2) := by decide +kernel
theorem dX12_isBest_21 : decode cX12_isBest 21 = .ok (.aload_n 0, 1) := by decide +kernel
theorem dX12_isBest_22 : decode cX12_isBest 22 = .ok (.getfield 52, 3) := by decide +kernel
theorem dX12_isBest_25 : decode cX12_isBest 25 = .ok (.iload 4, 2) := by decide +kernel
theorem dX12_isBest_27 : decode cX12_isBest 27 = .ok (.baload, 1) := by decide +kernel
theorem dX12_isBest_28 : decode cX12_isBest 28 = .ok (.ifCond .eq 38, 3) := by decide +kernel
theorem dX12_isBest_31 : decode cX12_isBest 31 = .ok (.iload 7, 2) := by decide +kernel
theorem dX12_isBest_33 : decode cX12_isBest 33 = .ok (.ldc 255, 2) := by decide +kernel
theorem dX12_isBest_35 : decode cX12_isBest 35 = .ok (.if_icmp .ge 31, 3) := by decide +kernel
theorem dX12_isBest_38 : decode cX12_isBest 38 = .ok (.iload_n 1, 1) := by decide +kernel
theorem dX12_isBest_39 : decode cX12_isBest 39 = .ok (.iload_n 1, 1) := by decide +kernel
theorem dX12_isBest_40 : decode cX12_isBest 40 = .ok (.iload 5, 2) := by decide +kernel
theorem dX12_isBest_42 : decode cX12_isBest 42 = .ok (.aload_n 0, 1) := by decide +kernel
theorem dX12_isBest_43 : decode cX12_isBest 43 = .ok (.getfield 56, 3) := by decide +kernel
theorem dX12_isBest_46 : decode cX12_isBest 46 = .ok (.iload 4, 2) := by decide +kernel
theorem dX12_isBest_48 : decode cX12_isBest 48 = .ok (.iaload, 1) := by decide +kernel
theorem dX12_isBest_49 : decode cX12_isBest 49 = .ok (.invokestatic 262, 3) := by decide +kernel
theorem dX12_isBest_52 : decode cX12_isBest 52 = .ok (.iload 7, 2) := by decide +kernel
theorem dX12_isBest_54 : decode cX12_isBest 54 = .ok (.invokestatic 262, 3) := by decide +kernel
theorem dX12_isBest_57 : decode cX12_isBest 57 = .ok (.iload 6, 2) := by decide +kernel
theorem dX12_isBest_59 : decode cX12_isBest 59 = .ok (.if_icmp .gt 7, 3) := by decide +kernel
theorem dX12_isBest_62 : decode cX12_isBest 62 = .ok (.iconst 1, 1) := by decide +kernel
theorem dX12_isBest_63 : decode cX12_isBest 63 = .ok (.goto 4, 3) := by decide +kernel
theorem dX12_isBest_66 : decode cX12_isBest 66 = .ok (.iconst 0, 1) := by decide +kernel
theorem dX12_isBest_67 : decode cX12_isBest 67 = .ok (.ireturn, 1) := by decide +kernel
theorem dX12_sumOf_0 : decode cX12_sumOf 0 = .ok (.aload_n 0, 1) := by decide +kernel
theorem dX12_sumOf_1 : decode cX12_sumOf 1 = .ok (.getfield 59, 3) := by decide +kernel
theorem dX12_sumOf_4 : decode cX12_sumOf 4 = .ok (.aload_n 0, 1) := by decide +kernel
theorem dX12_sumOf_5 : decode cX12_sumOf 5 = .ok (.invokevirtual 249, 3) := by decide +kernel
theorem dX12_sumOf_8 : decode cX12_sumOf 8 = .ok (.iaload, 1) := by decide +kernel
theorem dX12_sumOf_9 : decode cX12_sumOf 9 = .ok (.istore_n 3, 1) := by decide +kernel
theorem dX12_sumOf_10 : decode cX12_sumOf 10 = .ok (.iload_n 1, 1) := by decide +kernel
theorem dX12_sumOf_11 : decode cX12_sumOf 11 = .ok (.ifCond .ne 8, 3) := by decide +kernel
theorem dX12_sumOf_14 : decode cX12_sumOf 14 = .ok (.iload_n 3, 1) := by decide +kernel
theorem dX12_sumOf_15 : decode cX12_sumOf 15 = .ok (.ineg, 1) := by decide +kernel
theorem dX12_sumOf_16 : decode cX12_sumOf 16 = .ok (.goto 4, 3) := by decide +kernel
theorem dX12_sumOf_19 : decode cX12_sumOf 19 = .ok (.iload_n 3, 1) := by decide +kernel
theorem dX12_sumOf_20 : decode cX12_sumOf 20 = .ok (.ireturn, 1) := by decide +kernel
theorem dX12_isTroupe_0 : decode cX12_isTroupe 0 = .ok (.iload_n 1, 1) := by decide +kernel
theorem dX12_isTroupe_1 : decode cX12_isTroupe 1 = .ok (.ifCond .lt 18, 3) := by decide +kernel
theorem dX12_isTroupe_4 : decode cX12_isTroupe 4 = .ok (.iload_n 1, 1) := by decide +kernel
theorem dX12_isTroupe_5 : decode cX12_isTroupe 5 = .ok (.aload_n 0, 1) := by decide +kernel
theorem dX12_isTroupe_6 : decode cX12_isTroupe 6 = .ok (.getfield 7, 3) := by decide +kernel
theorem dX12_isTroupe_9 : decode cX12_isTroupe 9 = .ok (.iconst 3, 1) := by decide +kernel
theorem dX12_isTroupe_10 : decode cX12_isTroupe 10 = .ok (.iaload, 1) := by decide +kernel
theorem dX12_isTroupe_11 : decode cX12_isTroupe 11 = .ok (.ishr, 1) := by decide +kernel
theorem dX12_isTroupe_12 : decode cX12_isTroupe 12 = .ok (.ifCond .ne 7, 3) := by decide +kernel
theorem dX12_isTroupe_15 : decode cX12_isTroupe 15 = .ok (.iconst 1, 1) := by decide +kernel
theorem dX12_isTroupe_16 : decode cX12_isTroupe 16 = .ok (.goto 4, 3) := by decide +kernel
theorem dX12_isTroupe_19 : decode cX12_isTroupe 19 = .ok (.iconst 0, 1) := by decide +kernel
theorem dX12_isTroupe_20 : decode cX12_isTroupe 20 = .ok (.ireturn, 1) := by decide +kernel
theorem dX12_best_0 : decode cX12_best 0 = .ok (.iload_n 1, 1) := by decide +kernel
theorem dX12_best_1 : decode cX12_best 1 = .ok (.iconst 0, 1) := by decide +kernel
theorem dX12_best_2 : decode cX12_best 2 = .ok (.iconst 3, 1) := by decide +kernel
theorem dX12_best_3 : decode cX12_best 3 = .ok (.invokestatic 91, 3) := by decide +kernel
theorem dX12_best_6 : decode cX12_best 6 = .ok (.ifCond .eq 27, 3) := by decide +kernel
theorem dX12_best_9 : decode cX12_best 9 = .ok (.aload_n 0, 1) := by decide +kernel
theorem dX12_best_10 : decode cX12_best 10 = .ok (.iload_n 2, 1) := by decide +kernel
theorem dX12_best_11 : decode cX12_best 11 = .ok (.invokevirtual 272, 3) := by decide +kernel
theorem dX12_best_14 : decode cX12_best 14 = .ok (.ifCond .eq 19, 3) := by decide +kernel
theorem dX12_best_17 : decode cX12_best 17 = .ok (.iload_n 3, 1) := by decide +kernel
theorem dX12_best_18 : decode cX12_best 18 = .ok (.iconst (-1), 1) := by decide +kernel
theorem dX12_best_19 : decode cX12_best 19 = .ok (.aload_n 0, 1) := by decide +kernel
theorem dX12_best_20 : decode cX12_best 20 = .ok (.getfield 7, 3) := by decide +kernel
theorem dX12_best_23 : decode cX12_best 23 = .ok (.iconst 1, 1) := by decide +kernel
theorem dX12_best_24 : decode cX12_best 24 = .ok (.iaload, 1) := by decide +kernel
theorem dX12_best_25 : decode cX12_best 25 = .ok (.iconst 1, 1) := by decide +kernel
theorem dX12_best_26 : decode cX12_best 26 = .ok (.isub, 1) := by decide +kernel
theorem dX12_best_27 : decode cX12_best 27 = .ok (.invokestatic 91, 3) := by decide +kernel
theorem dX12_best_30 : decode cX12_best 30 = .ok (.ifCond .ne 9, 3) := by decide +kernel
theorem dX12_best_33 : decode cX12_best 33 = .ok (.aload_n 0, 1) := by decide +kernel
theorem dX12_best_34 : decode cX12_best 34 = .ok (.iconst 1, 1) := by decide +kernel
theorem dX12_best_35 : decode cX12_best 35 = .ok (.invokevirtual 95, 3) := by decide +kernel
theorem dX12_best_38 : decode cX12_best 38 = .ok (.ireturn, 1) := by decide +kernel
theorem dX12_best_39 : decode cX12_best 39 = .ok (.aload_n 0, 1) := by decide +kernel
theorem dX12_best_40 : decode cX12_best 40 = .ok (.iload_n 1, 1) := by decide +kernel
theorem dX12_best_41 : decode cX12_best 41 = .ok (.iload_n 2, 1) := by decide +kernel
theorem dX12_best_42 : decode cX12_best 42 = .ok (.invokevirtual 275, 3) := by decide +kernel
theorem dX12_best_45 : decode cX12_best 45 = .ok (.ifCond .ne 9, 3) := by decide +kernel
theorem dX12_best_48 : decode cX12_best 48 = .ok (.aload_n 0, 1) := by decide +kernel
theorem dX12_best_49 : decode cX12_best 49 = .ok (.iconst 2, 1) := by decide +kernel
theorem dX12_best_50 : decode cX12_best 50 = .ok (.invokevirtual 95, 3) := by decide +kernel
theorem dX12_best_53 : decode cX12_best 53 = .ok (.ireturn, 1) := by decide +kernel
theorem dX12_best_54 : decode cX12_best 54 = .ok (.iload_n 3, 1) := by decide +kernel
theorem dX12_best_55 : decode cX12_best 55 = .ok (.ifCond .ge 12, 3) := by decide +kernel
theorem dX12_best_58 : decode cX12_best 58 = .ok (.aload_n 0, 1) := by decide +kernel
theorem dX12_best_59 : decode cX12_best 59 = .ok (.iload_n 1, 1) := by decide +kernel
theorem dX12_best_60 : decode cX12_best 60 = .ok (.iload_n 2, 1) := by decide +kernel
theorem dX12_best_61 : decode cX12_best 61 = .ok (.invokevirtual 278, 3) := by decide +kernel
theorem dX12_best_64 : decode cX12_best 64 = .ok (.goto 9, 3) := by decide +kernel
theorem dX12_best_67 : decode cX12_best 67 = .ok (.aload_n 0, 1) := by decide +kernel
theorem dX12_best_68 : decode cX12_best 68 = .ok (.getfield 72, 3) := by decide +kernel
theorem dX12_best_71 : decode cX12_best 71 = .ok (.iload_n 3, 1) := by decide +kernel
theorem dX12_best_72 : decode cX12_best 72 = .ok (.iaload, 1) := by decide +kernel
theorem dX12_best_73 : decode cX12_best 73 = .ok (.ireturn, 1) := by decide +kernel
theorem dX12_take_0 : decode cX12_take 0 = .ok (.iload_n 1, 1) := by decide +kernel
theorem dX12_take_1 : decode cX12_take 1 = .ok (.iconst 0, 1) := by decide +kernel
theorem dX12_take_2 : decode cX12_take 2 = .ok (.iconst 3, 1) := by decide +kernel
theorem dX12_take_3 : decode cX12_take 3 = .ok (.invokestatic 91, 3) := by decide +kernel
theorem dX12_take_6 : decode cX12_take 6 = .ok (.ifCond .eq 11, 3) := by decide +kernel
theorem dX12_take_9 : decode cX12_take 9 = .ok (.aload_n 0, 1) := by decide +kernel
theorem dX12_take_10 : decode cX12_take 10 = .ok (.iload_n 2, 1) := by decide +kernel
theorem dX12_take_11 : decode cX12_take 11 = .ok (.invokevirtual 272, 3) := by decide +kernel
theorem dX12_take_14 : decode cX12_take 14 = .ok (.ifCond .ne 9, 3) := by decide +kernel
theorem dX12_take_17 : decode cX12_take 17 = .ok (.aload_n 0, 1) := by decide +kernel
theorem dX12_take_18 : decode cX12_take 18 = .ok (.iconst 1, 1) := by decide +kernel
theorem dX12_take_19 : decode cX12_take 19 = .ok (.invokevirtual 95, 3) := by decide +kernel
theorem dX12_take_22 : decode cX12_take 22 = .ok (.ireturn, 1) := by decide +kernel
theorem dX12_take_23 : decode cX12_take 23 = .ok (.aload_n 0, 1) := by decide +kernel
theorem dX12_take_24 : decode cX12_take 24 = .ok (.iload_n 1, 1) := by decide +kernel
theorem dX12_take_25 : decode cX12_take 25 = .ok (.iload_n 2, 1) := by decide +kernel
theorem dX12_take_26 : decode cX12_take 26 = .ok (.invokevirtual 275, 3) := by decide +kernel
theorem dX12_take_29 : decode cX12_take 29 = .ok (.ifCond .ne 9, 3) := by decide +kernel
theorem dX12_take_32 : decode cX12_take 32 = .ok (.aload_n 0, 1) := by decide +kernel
theorem dX12_take_33 : decode cX12_take 33 = .ok (.iconst 2, 1) := by decide +kernel
theorem dX12_take_34 : decode cX12_take 34 = .ok (.invokevirtual 95, 3) := by decide +kernel
theorem dX12_take_37 : decode cX12_take 37 = .ok (.ireturn, 1) := by decide +kernel
theorem dX12_take_38 : decode cX12_take 38 = .ok (.aload_n 0, 1) := by decide +kernel
theorem dX12_take_39 : decode cX12_take 39 = .ok (.iload_n 1, 1) := by decide +kernel
theorem dX12_take_40 : decode cX12_take 40 = .ok (.iload_n 2, 1) := by decide +kernel
theorem dX12_take_41 : decode cX12_take 41 = .ok (.invokevirtual 278, 3) := by decide +kernel
theorem dX12_take_44 : decode cX12_take 44 = .ok (.istore_n 3, 1) := by decide +kernel
theorem dX12_take_45 : decode cX12_take 45 = .ok (.iconst 0, 1) := by decide +kernel
theorem dX12_take_46 : decode cX12_take 46 = .ok (.istore 4, 2) := by decide +kernel
theorem dX12_take_48 : decode cX12_take 48 = .ok (.iload 4, 2) := by decide +kernel
theorem dX12_take_50 : decode cX12_take 50 = .ok (.aload_n 0, 1) := by decide +kernel
theorem dX12_take_51 : decode cX12_take 51 = .ok (.getfield 7, 3) := by decide +kernel
theorem dX12_take_54 : decode cX12_take 54 = .ok (.iconst 1, 1) := by decide +kernel
theorem dX12_take_55 : decode cX12_take 55 = .ok (.iaload, 1) := by decide +kernel
theorem dX12_take_56 : decode cX12_take 56 = .ok (.if_icmp .ge 30, 3) := by decide +kernel
theorem dX12_take_59 : decode cX12_take 59 = .ok (.aload_n 0, 1) := by decide +kernel
theorem dX12_take_60 : decode cX12_take 60 = .ok (.getfield 7, 3) := by decide +kernel
theorem dX12_take_63 : decode cX12_take 63 = .ok (.bipush 10, 2) := by decide +kernel
theorem dX12_take_65 : decode cX12_take 65 = .ok (.iconst 5, 1) := by decide +kernel
theorem dX12_take_66 : decode cX12_take 66 = .ok (.iload 4, 2) := by decide +kernel
theorem dX12_take_68 : decode cX12_take 68 = .ok (.imul, 1) := by decide +kernel
theorem dX12_take_69 : decode cX12_take 69 = .ok (.iadd, 1) := by decide +kernel
theorem dX12_take_70 : decode cX12_take 70 = .ok (.iconst 4, 1) := by decide +kernel
theorem dX12_take_71 : decode cX12_take 71 = .ok (.iadd, 1) := by decide +kernel
theorem dX12_take_72 : decode cX12_take 72 = .ok (.aload_n 0, 1) := by decide +kernel
theorem dX12_take_73 : decode cX12_take 73 = .ok (.getfield 72, 3) := by decide +kernel
theorem dX12_take_76 : decode cX12_take 76 = .ok (.iload 4, 2) := by decide +kernel
theorem dX12_take_78 : decode cX12_take 78 = .ok (.iaload, 1) := by decide +kernel
theorem dX12_take_79 : decode cX12_take 79 = .ok (.iastore, 1) := by decide +kernel
theorem dX12_take_80 : decode cX12_take 80 = .ok (.iinc 4 1, 3) := by decide +kernel
theorem dX12_take_83 : decode cX12_take 83 = .ok (.goto (-35), 3) := by decide +kernel
theorem dX12_take_86 : decode cX12_take 86 = .ok (.iload_n 3, 1) := by decide +kernel
theorem dX12_take_87 : decode cX12_take 87 = .ok (.ireturn, 1) := by decide +kernel
theorem dX12_findWays_0 : decode cX12_findWays 0 = .ok (.aload_n 0, 1) := by decide +kernel
theorem dX12_findWays_1 : decode cX12_findWays 1 = .ok (.invokevirtual 237, 3) := by decide +kernel
theorem dX12_findWays_4 : decode cX12_findWays 4 = .ok (.iconst 0, 1) := by decide +kernel
theorem dX12_findWays_5 : decode cX12_findWays 5 = .ok (.istore_n 2, 1) := by decide +kernel
theorem dX12_findWays_6 : decode cX12_findWays 6 = .ok (.iload_n 2, 1) := by decide +kernel
theorem dX12_findWays_7 : decode cX12_findWays 7 = .ok (.sipush 1024, 3) := by decide +kernel
theorem dX12_findWays_10 : decode cX12_findWays 10 = .ok (.if_icmp .ge 24, 3) := by decide +kernel
theorem dX12_findWays_13 : decode cX12_findWays 13 = .ok (.aload_n 0, 1) := by decide +kernel
theorem dX12_findWays_14 : decode cX12_findWays 14 = .ok (.getfield 62, 3) := by decide +kernel
theorem dX12_findWays_17 : decode cX12_findWays 17 = .ok (.iload_n 2, 1) := by decide +kernel
theorem dX12_findWays_18 : decode cX12_findWays 18 = .ok (.iload_n 2, 1) := by decide +kernel
theorem dX12_findWays_19 : decode cX12_findWays 19 = .ok (.ifCond .ne 7, 3) := by decide +kernel
theorem dX12_findWays_22 : decode cX12_findWays 22 = .ok (.lconst 1, 1) := by decide +kernel
theorem dX12_findWays_23 : decode cX12_findWays 23 = .ok (.goto 4, 3) := by decide +kernel
theorem dX12_findWays_26 : decode cX12_findWays 26 = .ok (.lconst 0, 1) := by decide +kernel
theorem dX12_findWays_27 : decode cX12_findWays 27 = .ok (.lastore, 1) := by decide +kernel
theorem dX12_findWays_28 : decode cX12_findWays 28 = .ok (.iinc 2 1, 3) := by decide +kernel
theorem dX12_findWays_31 : decode cX12_findWays 31 = .ok (.goto (-25), 3) := by decide +kernel
theorem dX12_findWays_34 : decode cX12_findWays 34 = .ok (.iconst 0, 1) := by decide +kernel
theorem dX12_findWays_35 : decode cX12_findWays 35 = .ok (.istore_n 2, 1) := by decide +kernel
theorem dX12_findWays_36 : decode cX12_findWays 36 = .ok (.iload_n 2, 1) := by decide +kernel
theorem dX12_findWays_37 : decode cX12_findWays 37 = .ok (.bipush 6, 2) := by decide +kernel
theorem dX12_findWays_39 : decode cX12_findWays 39 = .ok (.if_icmp .ge 142, 3) := by decide +kernel
theorem dX12_findWays_42 : decode cX12_findWays 42 = .ok (.iload_n 1, 1) := by decide +kernel
theorem dX12_findWays_43 : decode cX12_findWays 43 = .ok (.iload_n 2, 1) := by decide +kernel
theorem dX12_findWays_44 : decode cX12_findWays 44 = .ok (.ishr, 1) := by decide +kernel
theorem dX12_findWays_45 : decode cX12_findWays 45 = .ok (.iconst 1, 1) := by decide +kernel
theorem dX12_findWays_46 : decode cX12_findWays 46 = .ok (.iand, 1) := by decide +kernel
theorem dX12_findWays_47 : decode cX12_findWays 47 = .ok (.ifCond .ne 6, 3) := by decide +kernel
theorem dX12_findWays_50 : decode cX12_findWays 50 = .ok (.goto 125, 3) := by decide +kernel
theorem dX12_findWays_53 : decode cX12_findWays 53 = .ok (.aload_n 0, 1) := by decide +kernel
theorem dX12_findWays_54 : decode cX12_findWays 54 = .ok (.iload_n 2, 1) := by decide +kernel
theorem dX12_findWays_55 : decode cX12_findWays 55 = .ok (.invokevirtual 256, 3) := by decide +kernel
theorem dX12_findWays_58 : decode cX12_findWays 58 = .ok (.iconst 0, 1) := by decide +kernel
theorem dX12_findWays_59 : decode cX12_findWays 59 = .ok (.istore_n 3, 1) := by decide +kernel
theorem dX12_findWays_60 : decode cX12_findWays 60 = .ok (.iload_n 3, 1) := by decide +kernel
theorem dX12_findWays_61 : decode cX12_findWays 61 = .ok (.aload_n 0, 1) := by decide +kernel
theorem dX12_findWays_62 : decode cX12_findWays 62 = .ok (.invokevirtual 249, 3) := by decide +kernel
theorem dX12_findWays_65 : decode cX12_findWays 65 = .ok (.if_icmp .gt 78, 3) := by decide +kernel
theorem dX12_findWays_68 : decode cX12_findWays 68 = .ok (.aload_n 0, 1) := by decide +kernel
theorem dX12_findWays_69 : decode cX12_findWays 69 = .ok (.getfield 62, 3) := by decide +kernel
theorem dX12_findWays_72 : decode cX12_findWays 72 = .ok (.iload_n 3, 1) := by decide +kernel
theorem dX12_findWays_73 : decode cX12_findWays 73 = .ok (.laload, 1) := by decide +kernel
theorem dX12_findWays_74 : decode cX12_findWays 74 = .ok (.lstore 4, 2) := by decide +kernel
theorem dX12_findWays_76 : decode cX12_findWays 76 = .ok (.iload_n 3, 1) := by decide +kernel
theorem dX12_findWays_77 : decode cX12_findWays 77 = .ok (.istore 6, 2) := by decide +kernel
theorem dX12_findWays_79 : decode cX12_findWays 79 = .ok (.iload 6, 2) := by decide +kernel
theorem dX12_findWays_81 : decode cX12_findWays 81 = .ok (.ifCond .le 44, 3) := by decide +kernel
theorem dX12_findWays_84 : decode cX12_findWays 84 = .ok (.lload 4, 2) := by decide +kernel
theorem dX12_findWays_86 : decode cX12_findWays 86 = .ok (.aload_n 0, 1) := by decide +kernel
theorem dX12_findWays_87 : decode cX12_findWays 87 = .ok (.getfield 52, 3) := by decide +kernel
theorem dX12_findWays_90 : decode cX12_findWays 90 = .ok (.iload 6, 2) := by decide +kernel
theorem dX12_findWays_92 : decode cX12_findWays 92 = .ok (.baload, 1) := by decide +kernel
theorem dX12_findWays_93 : decode cX12_findWays 93 = .ok (.ifCond .eq 17, 3) := by decide +kernel
theorem dX12_findWays_96 : decode cX12_findWays 96 = .ok (.aload_n 0, 1) := by decide +kernel
theorem dX12_findWays_97 : decode cX12_findWays 97 = .ok (.getfield 62, 3) := by decide +kernel
theorem dX12_findWays_100 : decode cX12_findWays 100 = .ok (.iload_n 3, 1) := by decide +kernel
theorem dX12_findWays_101 : decode cX12_findWays 101 = .ok (.iload 6, 2) := by decide +kernel
theorem dX12_findWays_103 : decode cX12_findWays 103 = .ok (.iconst (-1), 1) := by decide +kernel
theorem dX12_findWays_104 : decode cX12_findWays 104 = .ok (.ixor, 1) := by decide +kernel
theorem dX12_findWays_105 : decode cX12_findWays 105 = .ok (.iand, 1) := by decide +kernel
theorem dX12_findWays_106 : decode cX12_findWays 106 = .ok (.laload, 1) := by decide +kernel
theorem dX12_findWays_107 : decode cX12_findWays 107 = .ok (.goto 4, 3) := by decide +kernel
theorem dX12_findWays_110 : decode cX12_findWays 110 = .ok (.lconst 0, 1) := by decide +kernel
theorem dX12_findWays_111 : decode cX12_findWays 111 = .ok (.ladd, 1) := by decide +kernel
theorem dX12_findWays_112 : decode cX12_findWays 112 = .ok (.lstore 4, 2) := by decide +kernel
theorem dX12_findWays_114 : decode cX12_findWays 114 = .ok (.iload 6, 2) := by decide +kernel
theorem dX12_findWays_116 : decode cX12_findWays 116 = .ok (.iconst 1, 1) := by decide +kernel
theorem dX12_findWays_117 : decode cX12_findWays 117 = .ok (.isub, 1) := by decide +kernel
theorem dX12_findWays_118 : decode cX12_findWays 118 = .ok (.iload_n 3, 1) := by decide +kernel
theorem dX12_findWays_119 : decode cX12_findWays 119 = .ok (.iand, 1) := by decide +kernel
theorem dX12_findWays_120 : decode cX12_findWays 120 = .ok (.istore 6, 2) := by decide +kernel
theorem dX12_findWays_122 : decode cX12_findWays 122 = .ok (.goto (-43), 3) := by decide +kernel
theorem dX12_findWays_125 : decode cX12_findWays 125 = .ok (.aload_n 0, 1) := by decide +kernel
theorem dX12_findWays_126 : decode cX12_findWays 126 = .ok (.getfield 62, 3) := by decide +kernel
theorem dX12_findWays_129 : decode cX12_findWays 129 = .ok (.sipush 1024, 3) := by decide +kernel
theorem dX12_findWays_132 : decode cX12_findWays 132 = .ok (.iload_n 3, 1) := by decide +kernel
theorem dX12_findWays_133 : decode cX12_findWays 133 = .ok (.iadd, 1) := by decide +kernel
theorem dX12_findWays_134 : decode cX12_findWays 134 = .ok (.lload 4, 2) := by decide +kernel
theorem dX12_findWays_136 : decode cX12_findWays 136 = .ok (.lastore, 1) := by decide +kernel
theorem dX12_findWays_137 : decode cX12_findWays 137 = .ok (.iinc 3 1, 3) := by decide +kernel
theorem dX12_findWays_140 : decode cX12_findWays 140 = .ok (.goto (-80), 3) := by decide +kernel
theorem dX12_findWays_143 : decode cX12_findWays 143 = .ok (.iconst 0, 1) := by decide +kernel
theorem dX12_findWays_144 : decode cX12_findWays 144 = .ok (.istore_n 3, 1) := by decide +kernel
theorem dX12_findWays_145 : decode cX12_findWays 145 = .ok (.iload_n 3, 1) := by decide +kernel
theorem dX12_findWays_146 : decode cX12_findWays 146 = .ok (.aload_n 0, 1) := by decide +kernel
theorem dX12_findWays_147 : decode cX12_findWays 147 = .ok (.invokevirtual 249, 3) := by decide +kernel
theorem dX12_findWays_150 : decode cX12_findWays 150 = .ok (.if_icmp .gt 25, 3) := by decide +kernel
theorem dX12_findWays_153 : decode cX12_findWays 153 = .ok (.aload_n 0, 1) := by decide +kernel
theorem dX12_findWays_154 : decode cX12_findWays 154 = .ok (.getfield 62, 3) := by decide +kernel
theorem dX12_findWays_157 : decode cX12_findWays 157 = .ok (.iload_n 3, 1) := by decide +kernel
theorem dX12_findWays_158 : decode cX12_findWays 158 = .ok (.aload_n 0, 1) := by decide +kernel
theorem dX12_findWays_159 : decode cX12_findWays 159 = .ok (.getfield 62, 3) := by decide +kernel
theorem dX12_findWays_162 : decode cX12_findWays 162 = .ok (.sipush 1024, 3) := by decide +kernel
theorem dX12_findWays_165 : decode cX12_findWays 165 = .ok (.iload_n 3, 1) := by decide +kernel
theorem dX12_findWays_166 : decode cX12_findWays 166 = .ok (.iadd, 1) := by decide +kernel
theorem dX12_findWays_167 : decode cX12_findWays 167 = .ok (.laload, 1) := by decide +kernel
theorem dX12_findWays_168 : decode cX12_findWays 168 = .ok (.lastore, 1) := by decide +kernel
theorem dX12_findWays_169 : decode cX12_findWays 169 = .ok (.iinc 3 1, 3) := by decide +kernel
theorem dX12_findWays_172 : decode cX12_findWays 172 = .ok (.goto (-27), 3) := by decide +kernel
theorem dX12_findWays_175 : decode cX12_findWays 175 = .ok (.iinc 2 1, 3) := by decide +kernel
theorem dX12_findWays_178 : decode cX12_findWays 178 = .ok (.goto (-142), 3) := by decide +kernel
theorem dX12_findWays_181 : decode cX12_findWays 181 = .ok (.return_, 1) := by decide +kernel
theorem dX12_castings_0 : decode cX12_castings 0 = .ok (.aload_n 0, 1) := by decide +kernel
theorem dX12_castings_1 : decode cX12_castings 1 = .ok (.iload_n 1, 1) := by decide +kernel
theorem dX12_castings_2 : decode cX12_castings 2 = .ok (.invokevirtual 272, 3) := by decide +kernel
theorem dX12_castings_5 : decode cX12_castings 5 = .ok (.ifCond .ne 10, 3) := by decide +kernel
theorem dX12_castings_8 : decode cX12_castings 8 = .ok (.aload_n 0, 1) := by decide +kernel
theorem dX12_castings_9 : decode cX12_castings 9 = .ok (.iconst 1, 1) := by decide +kernel
theorem dX12_castings_10 : decode cX12_castings 10 = .ok (.invokevirtual 95, 3) := by decide +kernel
theorem dX12_castings_13 : decode cX12_castings 13 = .ok (.i2l, 1) := by decide +kernel
theorem dX12_castings_14 : decode cX12_castings 14 = .ok (.lreturn, 1) := by decide +kernel
theorem dX12_castings_15 : decode cX12_castings 15 = .ok (.aload_n 0, 1) := by decide +kernel
theorem dX12_castings_16 : decode cX12_castings 16 = .ok (.iload_n 1, 1) := by decide +kernel
theorem dX12_castings_17 : decode cX12_castings 17 = .ok (.invokevirtual 281, 3) := by decide +kernel
theorem dX12_castings_20 : decode cX12_castings 20 = .ok (.aload_n 0, 1) := by decide +kernel
theorem dX12_castings_21 : decode cX12_castings 21 = .ok (.getfield 62, 3) := by decide +kernel
theorem dX12_castings_24 : decode cX12_castings 24 = .ok (.aload_n 0, 1) := by decide +kernel
theorem dX12_castings_25 : decode cX12_castings 25 = .ok (.invokevirtual 249, 3) := by decide +kernel
theorem dX12_castings_28 : decode cX12_castings 28 = .ok (.laload, 1) := by decide +kernel
theorem dX12_castings_29 : decode cX12_castings 29 = .ok (.lreturn, 1) := by decide +kernel
theorem dX12_bits_0 : decode cX12_bits 0 = .ok (.iconst 0, 1) := by decide +kernel
theorem dX12_bits_1 : decode cX12_bits 1 = .ok (.istore_n 1, 1) := by decide +kernel
theorem dX12_bits_2 : decode cX12_bits 2 = .ok (.iconst 0, 1) := by decide +kernel
theorem dX12_bits_3 : decode cX12_bits 3 = .ok (.istore_n 2, 1) := by decide +kernel
theorem dX12_bits_4 : decode cX12_bits 4 = .ok (.iload_n 2, 1) := by decide +kernel
theorem dX12_bits_5 : decode cX12_bits 5 = .ok (.bipush 10, 2) := by decide +kernel
theorem dX12_bits_7 : decode cX12_bits 7 = .ok (.if_icmp .ge 17, 3) := by decide +kernel
theorem dX12_bits_10 : decode cX12_bits 10 = .ok (.iload_n 1, 1) := by decide +kernel
theorem dX12_bits_11 : decode cX12_bits 11 = .ok (.iload_n 0, 1) := by decide +kernel
theorem dX12_bits_12 : decode cX12_bits 12 = .ok (.iload_n 2, 1) := by decide +kernel
theorem dX12_bits_13 : decode cX12_bits 13 = .ok (.ishr, 1) := by decide +kernel
theorem dX12_bits_14 : decode cX12_bits 14 = .ok (.iconst 1, 1) := by decide +kernel
theorem dX12_bits_15 : decode cX12_bits 15 = .ok (.iand, 1) := by decide +kernel
theorem dX12_bits_16 : decode cX12_bits 16 = .ok (.iadd, 1) := by decide +kernel
theorem dX12_bits_17 : decode cX12_bits 17 = .ok (.istore_n 1, 1) := by decide +kernel
theorem dX12_bits_18 : decode cX12_bits 18 = .ok (.iinc 2 1, 3) := by decide +kernel
theorem dX12_bits_21 : decode cX12_bits 21 = .ok (.goto (-17), 3) := by decide +kernel
theorem dX12_bits_24 : decode cX12_bits 24 = .ok (.iload_n 1, 1) := by decide +kernel
theorem dX12_bits_25 : decode cX12_bits 25 = .ok (.ireturn, 1) := by decide +kernel
theorem dX12_weightOf_0 : decode cX12_weightOf 0 = .ok (.iconst 0, 1) := by decide +kernel
theorem dX12_weightOf_1 : decode cX12_weightOf 1 = .ok (.istore_n 2, 1) := by decide +kernel
theorem dX12_weightOf_2 : decode cX12_weightOf 2 = .ok (.iconst 0, 1) := by decide +kernel
theorem dX12_weightOf_3 : decode cX12_weightOf 3 = .ok (.istore_n 3, 1) := by decide +kernel
theorem dX12_weightOf_4 : decode cX12_weightOf 4 = .ok (.iload_n 3, 1) := by decide +kernel
theorem dX12_weightOf_5 : decode cX12_weightOf 5 = .ok (.aload_n 0, 1) := by decide +kernel
theorem dX12_weightOf_6 : decode cX12_weightOf 6 = .ok (.getfield 7, 3) := by decide +kernel
theorem dX12_weightOf_9 : decode cX12_weightOf 9 = .ok (.iconst 1, 1) := by decide +kernel
theorem dX12_weightOf_10 : decode cX12_weightOf 10 = .ok (.iaload, 1) := by decide +kernel
theorem dX12_weightOf_11 : decode cX12_weightOf 11 = .ok (.if_icmp .ge 31, 3) := by decide +kernel
theorem dX12_weightOf_14 : decode cX12_weightOf 14 = .ok (.iload_n 2, 1) := by decide +kernel
theorem dX12_weightOf_15 : decode cX12_weightOf 15 = .ok (.iload_n 1, 1) := by decide +kernel
theorem dX12_weightOf_16 : decode cX12_weightOf 16 = .ok (.iload_n 3, 1) := by decide +kernel
theorem dX12_weightOf_17 : decode cX12_weightOf 17 = .ok (.ishr, 1) := by decide +kernel
theorem dX12_weightOf_18 : decode cX12_weightOf 18 = .ok (.iconst 1, 1) := by decide +kernel
theorem dX12_weightOf_19 : decode cX12_weightOf 19 = .ok (.iand, 1) := by decide +kernel
theorem dX12_weightOf_20 : decode cX12_weightOf 20 = .ok (.iconst 1, 1) := by decide +kernel
theorem dX12_weightOf_21 : decode cX12_weightOf 21 = .ok (.if_icmp .ne 12, 3) := by decide +kernel
theorem dX12_weightOf_24 : decode cX12_weightOf 24 = .ok (.aload_n 0, 1) := by decide +kernel
theorem dX12_weightOf_25 : decode cX12_weightOf 25 = .ok (.getfield 69, 3) := by decide +kernel
theorem dX12_weightOf_28 : decode cX12_weightOf 28 = .ok (.iload_n 3, 1) := by decide +kernel
theorem dX12_weightOf_29 : decode cX12_weightOf 29 = .ok (.iaload, 1) := by decide +kernel
theorem dX12_weightOf_30 : decode cX12_weightOf 30 = .ok (.goto 4, 3) := by decide +kernel
theorem dX12_weightOf_33 : decode cX12_weightOf 33 = .ok (.iconst 0, 1) := by decide +kernel
theorem dX12_weightOf_34 : decode cX12_weightOf 34 = .ok (.iadd, 1) := by decide +kernel
theorem dX12_weightOf_35 : decode cX12_weightOf 35 = .ok (.istore_n 2, 1) := by decide +kernel
theorem dX12_weightOf_36 : decode cX12_weightOf 36 = .ok (.iinc 3 1, 3) := by decide +kernel
theorem dX12_weightOf_39 : decode cX12_weightOf 39 = .ok (.goto (-35), 3) := by decide +kernel
theorem dX12_weightOf_42 : decode cX12_weightOf 42 = .ok (.iload_n 2, 1) := by decide +kernel
theorem dX12_weightOf_43 : decode cX12_weightOf 43 = .ok (.ireturn, 1) := by decide +kernel
theorem dX12_leave_0 : decode cX12_leave 0 = .ok (.aload_n 0, 1) := by decide +kernel
theorem dX12_leave_1 : decode cX12_leave 1 = .ok (.iload_n 1, 1) := by decide +kernel
theorem dX12_leave_2 : decode cX12_leave 2 = .ok (.invokevirtual 272, 3) := by decide +kernel
theorem dX12_leave_5 : decode cX12_leave 5 = .ok (.ifCond .eq 12, 3) := by decide +kernel
theorem dX12_leave_8 : decode cX12_leave 8 = .ok (.iload_n 2, 1) := by decide +kernel
theorem dX12_leave_9 : decode cX12_leave 9 = .ok (.iconst 0, 1) := by decide +kernel
theorem dX12_leave_10 : decode cX12_leave 10 = .ok (.iconst 1, 1) := by decide +kernel
theorem dX12_leave_11 : decode cX12_leave 11 = .ok (.invokestatic 91, 3) := by decide +kernel
theorem dX12_leave_14 : decode cX12_leave 14 = .ok (.ifCond .ne 9, 3) := by decide +kernel
theorem dX12_leave_17 : decode cX12_leave 17 = .ok (.aload_n 0, 1) := by decide +kernel
theorem dX12_leave_18 : decode cX12_leave 18 = .ok (.iconst 1, 1) := by decide +kernel
theorem dX12_leave_19 : decode cX12_leave 19 = .ok (.invokevirtual 95, 3) := by decide +kernel
theorem dX12_leave_22 : decode cX12_leave 22 = .ok (.ireturn, 1) := by decide +kernel
theorem dX12_leave_23 : decode cX12_leave 23 = .ok (.aload_n 0, 1) := by decide +kernel
theorem dX12_leave_24 : decode cX12_leave 24 = .ok (.iload_n 1, 1) := by decide +kernel
theorem dX12_leave_25 : decode cX12_leave 25 = .ok (.invokevirtual 281, 3) := by decide +kernel
theorem dX12_leave_28 : decode cX12_leave 28 = .ok (.iconst 0, 1) := by decide +kernel
theorem dX12_leave_29 : decode cX12_leave 29 = .ok (.istore_n 3, 1) := by decide +kernel
theorem dX12_leave_30 : decode cX12_leave 30 = .ok (.iload_n 3, 1) := by decide +kernel
theorem dX12_leave_31 : decode cX12_leave 31 = .ok (.aload_n 0, 1) := by decide +kernel
theorem dX12_leave_32 : decode cX12_leave 32 = .ok (.getfield 7, 3) := by decide +kernel
theorem dX12_leave_35 : decode cX12_leave 35 = .ok (.iconst 1, 1) := by decide +kernel
theorem dX12_leave_36 : decode cX12_leave 36 = .ok (.iaload, 1) := by decide +kernel
theorem dX12_leave_37 : decode cX12_leave 37 = .ok (.if_icmp .ge 20, 3) := by decide +kernel
theorem dX12_leave_40 : decode cX12_leave 40 = .ok (.aload_n 0, 1) := by decide +kernel
theorem dX12_leave_41 : decode cX12_leave 41 = .ok (.getfield 69, 3) := by decide +kernel
theorem dX12_leave_44 : decode cX12_leave 44 = .ok (.iload_n 3, 1) := by decide +kernel
theorem dX12_leave_45 : decode cX12_leave 45 = .ok (.aload_n 0, 1) := by decide +kernel
theorem dX12_leave_46 : decode cX12_leave 46 = .ok (.iload_n 3, 1) := by decide +kernel
theorem dX12_leave_47 : decode cX12_leave 47 = .ok (.invokevirtual 121, 3) := by decide +kernel
theorem dX12_leave_50 : decode cX12_leave 50 = .ok (.iastore, 1) := by decide +kernel
theorem dX12_leave_51 : decode cX12_leave 51 = .ok (.iinc 3 1, 3) := by decide +kernel
theorem dX12_leave_54 : decode cX12_leave 54 = .ok (.goto (-24), 3) := by decide +kernel
theorem dX12_leave_57 : decode cX12_leave 57 = .ok (.iconst (-1), 1) := by decide +kernel
theorem dX12_leave_58 : decode cX12_leave 58 = .ok (.istore_n 3, 1) := by decide +kernel
theorem dX12_leave_59 : decode cX12_leave 59 = .ok (.iconst 0, 1) := by decide +kernel
theorem dX12_leave_60 : decode cX12_leave 60 = .ok (.istore 4, 2) := by decide +kernel
theorem dX12_leave_62 : decode cX12_leave 62 = .ok (.iconst 0, 1) := by decide +kernel
theorem dX12_leave_63 : decode cX12_leave 63 = .ok (.istore 5, 2) := by decide +kernel
theorem dX12_leave_65 : decode cX12_leave 65 = .ok (.iload 5, 2) := by decide +kernel
theorem dX12_leave_67 : decode cX12_leave 67 = .ok (.aload_n 0, 1) := by decide +kernel
theorem dX12_leave_68 : decode cX12_leave 68 = .ok (.invokevirtual 249, 3) := by decide +kernel
theorem dX12_leave_71 : decode cX12_leave 71 = .ok (.if_icmp .gt 76, 3) := by decide +kernel
theorem dX12_leave_74 : decode cX12_leave 74 = .ok (.aload_n 0, 1) := by decide +kernel
theorem dX12_leave_75 : decode cX12_leave 75 = .ok (.getfield 62, 3) := by decide +kernel
theorem dX12_leave_78 : decode cX12_leave 78 = .ok (.aload_n 0, 1) := by decide +kernel
theorem dX12_leave_79 : decode cX12_leave 79 = .ok (.invokevirtual 249, 3) := by decide +kernel
theorem dX12_leave_82 : decode cX12_leave 82 = .ok (.iload 5, 2) := by decide +kernel
theorem dX12_leave_84 : decode cX12_leave 84 = .ok (.iconst (-1), 1) := by decide +kernel
theorem dX12_leave_85 : decode cX12_leave 85 = .ok (.ixor, 1) := by decide +kernel
theorem dX12_leave_86 : decode cX12_leave 86 = .ok (.iand, 1) := by decide +kernel
theorem dX12_leave_87 : decode cX12_leave 87 = .ok (.laload, 1) := by decide +kernel
theorem dX12_leave_88 : decode cX12_leave 88 = .ok (.lconst 0, 1) := by decide +kernel
theorem dX12_leave_89 : decode cX12_leave 89 = .ok (.lcmp, 1) := by decide +kernel
theorem dX12_leave_90 : decode cX12_leave 90 = .ok (.ifCond .ne 6, 3) := by decide +kernel
theorem dX12_leave_93 : decode cX12_leave 93 = .ok (.goto 48, 3) := by decide +kernel
theorem dX12_leave_96 : decode cX12_leave 96 = .ok (.aload_n 0, 1) := by decide +kernel
theorem dX12_leave_97 : decode cX12_leave 97 = .ok (.iload 5, 2) := by decide +kernel
theorem dX12_leave_99 : decode cX12_leave 99 = .ok (.invokevirtual 284, 3) := by decide +kernel
theorem dX12_leave_102 : decode cX12_leave 102 = .ok (.istore 6, 2) := by decide +kernel
theorem dX12_leave_104 : decode cX12_leave 104 = .ok (.iload_n 3, 1) := by decide +kernel
theorem dX12_leave_105 : decode cX12_leave 105 = .ok (.ifCond .lt 29, 3) := by decide +kernel
theorem dX12_leave_108 : decode cX12_leave 108 = .ok (.iload 6, 2) := by decide +kernel
theorem dX12_leave_110 : decode cX12_leave 110 = .ok (.iload 4, 2) := by decide +kernel
theorem dX12_leave_112 : decode cX12_leave 112 = .ok (.if_icmp .lt 22, 3) := by decide +kernel
theorem dX12_leave_115 : decode cX12_leave 115 = .ok (.iload 6, 2) := by decide +kernel
theorem dX12_leave_117 : decode cX12_leave 117 = .ok (.iload 4, 2) := by decide +kernel
theorem dX12_leave_119 : decode cX12_leave 119 = .ok (.if_icmp .ne 22, 3) := by decide +kernel
theorem dX12_leave_122 : decode cX12_leave 122 = .ok (.iload 5, 2) := by decide +kernel
theorem dX12_leave_124 : decode cX12_leave 124 = .ok (.invokestatic 287, 3) := by decide +kernel
theorem dX12_leave_127 : decode cX12_leave 127 = .ok (.iload_n 3, 1) := by decide +kernel
theorem dX12_leave_128 : decode cX12_leave 128 = .ok (.invokestatic 287, 3) := by decide +kernel
theorem dX12_leave_131 : decode cX12_leave 131 = .ok (.if_icmp .ge 10, 3) := by decide +kernel
theorem dX12_leave_134 : decode cX12_leave 134 = .ok (.iload 5, 2) := by decide +kernel
theorem dX12_leave_136 : decode cX12_leave 136 = .ok (.istore_n 3, 1) := by decide +kernel
theorem dX12_leave_137 : decode cX12_leave 137 = .ok (.iload 6, 2) := by decide +kernel
theorem dX12_leave_139 : decode cX12_leave 139 = .ok (.istore 4, 2) := by decide +kernel
theorem dX12_leave_141 : decode cX12_leave 141 = .ok (.iinc 5 1, 3) := by decide +kernel
theorem dX12_leave_144 : decode cX12_leave 144 = .ok (.goto (-79), 3) := by decide +kernel
theorem dX12_leave_147 : decode cX12_leave 147 = .ok (.iload_n 2, 1) := by decide +kernel
theorem dX12_leave_148 : decode cX12_leave 148 = .ok (.ifCond .ne 8, 3) := by decide +kernel
theorem dX12_leave_151 : decode cX12_leave 151 = .ok (.iload 4, 2) := by decide +kernel
theorem dX12_leave_153 : decode cX12_leave 153 = .ok (.goto 4, 3) := by decide +kernel
theorem dX12_leave_156 : decode cX12_leave 156 = .ok (.iload_n 3, 1) := by decide +kernel
theorem dX12_leave_157 : decode cX12_leave 157 = .ok (.ireturn, 1) := by decide +kernel
theorem dX12_never_0 : decode cX12_never 0 = .ok (.aload_n 0, 1) := by decide +kernel
theorem dX12_never_1 : decode cX12_never 1 = .ok (.iload_n 1, 1) := by decide +kernel
theorem dX12_never_2 : decode cX12_never 2 = .ok (.invokevirtual 272, 3) := by decide +kernel
theorem dX12_never_5 : decode cX12_never 5 = .ok (.ifCond .eq 20, 3) := by decide +kernel
theorem dX12_never_8 : decode cX12_never 8 = .ok (.aload_n 0, 1) := by decide +kernel
theorem dX12_never_9 : decode cX12_never 9 = .ok (.iload_n 2, 1) := by decide +kernel
theorem dX12_never_10 : decode cX12_never 10 = .ok (.invokevirtual 145, 3) := by decide +kernel
theorem dX12_never_13 : decode cX12_never 13 = .ok (.ifCond .eq 12, 3) := by decide +kernel
theorem dX12_never_16 : decode cX12_never 16 = .ok (.iload_n 3, 1) := by decide +kernel
theorem dX12_never_17 : decode cX12_never 17 = .ok (.iconst 0, 1) := by decide +kernel
theorem dX12_never_18 : decode cX12_never 18 = .ok (.iconst 1, 1) := by decide +kernel
theorem dX12_never_19 : decode cX12_never 19 = .ok (.invokestatic 91, 3) := by decide +kernel
theorem dX12_never_22 : decode cX12_never 22 = .ok (.ifCond .ne 9, 3) := by decide +kernel
theorem dX12_never_25 : decode cX12_never 25 = .ok (.aload_n 0, 1) := by decide +kernel
theorem dX12_never_26 : decode cX12_never 26 = .ok (.iconst 1, 1) := by decide +kernel
theorem dX12_never_27 : decode cX12_never 27 = .ok (.invokevirtual 95, 3) := by decide +kernel
theorem dX12_never_30 : decode cX12_never 30 = .ok (.ireturn, 1) := by decide +kernel
theorem dX12_never_31 : decode cX12_never 31 = .ok (.aload_n 0, 1) := by decide +kernel
theorem dX12_never_32 : decode cX12_never 32 = .ok (.iload_n 1, 1) := by decide +kernel
theorem dX12_never_33 : decode cX12_never 33 = .ok (.iconst 1, 1) := by decide +kernel
theorem dX12_never_34 : decode cX12_never 34 = .ok (.iload_n 2, 1) := by decide +kernel
theorem dX12_never_35 : decode cX12_never 35 = .ok (.ishl, 1) := by decide +kernel
theorem dX12_never_36 : decode cX12_never 36 = .ok (.iconst (-1), 1) := by decide +kernel
theorem dX12_never_37 : decode cX12_never 37 = .ok (.ixor, 1) := by decide +kernel
theorem dX12_never_38 : decode cX12_never 38 = .ok (.iand, 1) := by decide +kernel
theorem dX12_never_39 : decode cX12_never 39 = .ok (.invokevirtual 281, 3) := by decide +kernel
theorem dX12_never_42 : decode cX12_never 42 = .ok (.iconst 0, 1) := by decide +kernel
theorem dX12_never_43 : decode cX12_never 43 = .ok (.istore 4, 2) := by decide +kernel
theorem dX12_never_45 : decode cX12_never 45 = .ok (.aload_n 0, 1) := by decide +kernel
theorem dX12_never_46 : decode cX12_never 46 = .ok (.invokevirtual 249, 3) := by decide +kernel
theorem dX12_never_49 : decode cX12_never 49 = .ok (.istore 5, 2) := by decide +kernel
theorem dX12_never_51 : decode cX12_never 51 = .ok (.iconst 0, 1) := by decide +kernel
theorem dX12_never_52 : decode cX12_never 52 = .ok (.istore 6, 2) := by decide +kernel
theorem dX12_never_54 : decode cX12_never 54 = .ok (.iload_n 1, 1) := by decide +kernel
theorem dX12_never_55 : decode cX12_never 55 = .ok (.iload_n 2, 1) := by decide +kernel
theorem dX12_never_56 : decode cX12_never 56 = .ok (.ishr, 1) := by decide +kernel
theorem dX12_never_57 : decode cX12_never 57 = .ok (.iconst 1, 1) := by decide +kernel
theorem dX12_never_58 : decode cX12_never 58 = .ok (.iand, 1) := by decide +kernel
theorem dX12_never_59 : decode cX12_never 59 = .ok (.iconst 1, 1) := by decide +kernel
theorem dX12_never_60 : decode cX12_never 60 = .ok (.if_icmp .ne 7, 3) := by decide +kernel
theorem dX12_never_63 : decode cX12_never 63 = .ok (.iconst 1, 1) := by decide +kernel
theorem dX12_never_64 : decode cX12_never 64 = .ok (.goto 4, 3) := by decide +kernel
theorem dX12_never_67 : decode cX12_never 67 = .ok (.iconst 0, 1) := by decide +kernel
theorem dX12_never_68 : decode cX12_never 68 = .ok (.istore 7, 2) := by decide +kernel
theorem dX12_never_70 : decode cX12_never 70 = .ok (.iload 7, 2) := by decide +kernel
theorem dX12_never_72 : decode cX12_never 72 = .ok (.ifCond .eq 8, 3) := by decide +kernel
theorem dX12_never_75 : decode cX12_never 75 = .ok (.aload_n 0, 1) := by decide +kernel
theorem dX12_never_76 : decode cX12_never 76 = .ok (.iload_n 2, 1) := by decide +kernel
theorem dX12_never_77 : decode cX12_never 77 = .ok (.invokevirtual 256, 3) := by decide +kernel
theorem dX12_never_80 : decode cX12_never 80 = .ok (.iconst 0, 1) := by decide +kernel
theorem dX12_never_81 : decode cX12_never 81 = .ok (.istore 8, 2) := by decide +kernel
theorem dX12_never_83 : decode cX12_never 83 = .ok (.iload 8, 2) := by decide +kernel
theorem dX12_never_85 : decode cX12_never 85 = .ok (.iload 7, 2) := by decide +kernel
theorem dX12_never_87 : decode cX12_never 87 = .ok (.ifCond .eq 10, 3) := by decide +kernel
theorem dX12_never_90 : decode cX12_never 90 = .ok (.aload_n 0, 1) := by decide +kernel
theorem dX12_never_91 : decode cX12_never 91 = .ok (.invokevirtual 249, 3) := by decide +kernel
theorem dX12_never_94 : decode cX12_never 94 = .ok (.goto 4, 3) := by decide +kernel
theorem dX12_never_97 : decode cX12_never 97 = .ok (.iconst 0, 1) := by decide +kernel
theorem dX12_never_98 : decode cX12_never 98 = .ok (.if_icmp .gt 63, 3) := by decide +kernel
theorem dX12_never_101 : decode cX12_never 101 = .ok (.iload 8, 2) := by decide +kernel
theorem dX12_never_103 : decode cX12_never 103 = .ok (.ifCond .le 13, 3) := by decide +kernel
theorem dX12_never_106 : decode cX12_never 106 = .ok (.aload_n 0, 1) := by decide +kernel
theorem dX12_never_107 : decode cX12_never 107 = .ok (.getfield 52, 3) := by decide +kernel
theorem dX12_never_110 : decode cX12_never 110 = .ok (.iload 8, 2) := by decide +kernel
theorem dX12_never_112 : decode cX12_never 112 = .ok (.baload, 1) := by decide +kernel
theorem dX12_never_113 : decode cX12_never 113 = .ok (.ifCond .eq 42, 3) := by decide +kernel
theorem dX12_never_116 : decode cX12_never 116 = .ok (.aload_n 0, 1) := by decide +kernel
theorem dX12_never_117 : decode cX12_never 117 = .ok (.getfield 62, 3) := by decide +kernel
theorem dX12_never_120 : decode cX12_never 120 = .ok (.aload_n 0, 1) := by decide +kernel
theorem dX12_never_121 : decode cX12_never 121 = .ok (.invokevirtual 249, 3) := by decide +kernel
theorem dX12_never_124 : decode cX12_never 124 = .ok (.iload 8, 2) := by decide +kernel
theorem dX12_never_126 : decode cX12_never 126 = .ok (.iconst (-1), 1) := by decide +kernel
theorem dX12_never_127 : decode cX12_never 127 = .ok (.ixor, 1) := by decide +kernel
theorem dX12_never_128 : decode cX12_never 128 = .ok (.iand, 1) := by decide +kernel
theorem dX12_never_129 : decode cX12_never 129 = .ok (.laload, 1) := by decide +kernel
theorem dX12_never_130 : decode cX12_never 130 = .ok (.lconst 0, 1) := by decide +kernel
theorem dX12_never_131 : decode cX12_never 131 = .ok (.lcmp, 1) := by decide +kernel
theorem dX12_never_132 : decode cX12_never 132 = .ok (.ifCond .ne 6, 3) := by decide +kernel
theorem dX12_never_135 : decode cX12_never 135 = .ok (.goto 20, 3) := by decide +kernel
theorem dX12_never_138 : decode cX12_never 138 = .ok (.iconst 1, 1) := by decide +kernel
theorem dX12_never_139 : decode cX12_never 139 = .ok (.istore 6, 2) := by decide +kernel
theorem dX12_never_141 : decode cX12_never 141 = .ok (.iload 4, 2) := by decide +kernel
theorem dX12_never_143 : decode cX12_never 143 = .ok (.iload 8, 2) := by decide +kernel
theorem dX12_never_145 : decode cX12_never 145 = .ok (.ior, 1) := by decide +kernel
theorem dX12_never_146 : decode cX12_never 146 = .ok (.istore 4, 2) := by decide +kernel
theorem dX12_never_148 : decode cX12_never 148 = .ok (.iload 5, 2) := by decide +kernel
theorem dX12_never_150 : decode cX12_never 150 = .ok (.iload 8, 2) := by decide +kernel
theorem dX12_never_152 : decode cX12_never 152 = .ok (.iand, 1) := by decide +kernel
theorem dX12_never_153 : decode cX12_never 153 = .ok (.istore 5, 2) := by decide +kernel
theorem dX12_never_155 : decode cX12_never 155 = .ok (.iinc 8 1, 3) := by decide +kernel
theorem dX12_never_158 : decode cX12_never 158 = .ok (.goto (-75), 3) := by decide +kernel
theorem dX12_never_161 : decode cX12_never 161 = .ok (.iload 6, 2) := by decide +kernel
theorem dX12_never_163 : decode cX12_never 163 = .ok (.ifCond .ne 9, 3) := by decide +kernel
theorem dX12_never_166 : decode cX12_never 166 = .ok (.aload_n 0, 1) := by decide +kernel
theorem dX12_never_167 : decode cX12_never 167 = .ok (.iconst 2, 1) := by decide +kernel
theorem dX12_never_168 : decode cX12_never 168 = .ok (.invokevirtual 95, 3) := by decide +kernel
theorem dX12_never_171 : decode cX12_never 171 = .ok (.ireturn, 1) := by decide +kernel
theorem dX12_never_172 : decode cX12_never 172 = .ok (.iload_n 3, 1) := by decide +kernel
theorem dX12_never_173 : decode cX12_never 173 = .ok (.ifCond .ne 15, 3) := by decide +kernel
theorem dX12_never_176 : decode cX12_never 176 = .ok (.aload_n 0, 1) := by decide +kernel
theorem dX12_never_177 : decode cX12_never 177 = .ok (.invokevirtual 249, 3) := by decide +kernel
theorem dX12_never_180 : decode cX12_never 180 = .ok (.iload 4, 2) := by decide +kernel
theorem dX12_never_182 : decode cX12_never 182 = .ok (.iconst (-1), 1) := by decide +kernel
theorem dX12_never_183 : decode cX12_never 183 = .ok (.ixor, 1) := by decide +kernel
theorem dX12_never_184 : decode cX12_never 184 = .ok (.iand, 1) := by decide +kernel
theorem dX12_never_185 : decode cX12_never 185 = .ok (.goto 5, 3) := by decide +kernel
theorem dX12_never_188 : decode cX12_never 188 = .ok (.iload 5, 2) := by decide +kernel
theorem dX12_never_190 : decode cX12_never 190 = .ok (.ireturn, 1) := by decide +kernel
theorem dX12_runs_0 : decode cX12_runs 0 = .ok (.aload_n 0, 1) := by decide +kernel
theorem dX12_runs_1 : decode cX12_runs 1 = .ok (.getfield 290, 3) := by decide +kernel
theorem dX12_runs_4 : decode cX12_runs 4 = .ok (.bipush 40, 2) := by decide +kernel
theorem dX12_runs_6 : decode cX12_runs 6 = .ok (.if_icmp .ge 23, 3) := by decide +kernel
theorem dX12_runs_9 : decode cX12_runs 9 = .ok (.aload_n 0, 1) := by decide +kernel
theorem dX12_runs_10 : decode cX12_runs 10 = .ok (.getfield 75, 3) := by decide +kernel
theorem dX12_runs_13 : decode cX12_runs 13 = .ok (.aload_n 0, 1) := by decide +kernel
theorem dX12_runs_14 : decode cX12_runs 14 = .ok (.getfield 290, 3) := by decide +kernel
theorem dX12_runs_17 : decode cX12_runs 17 = .ok (.iload_n 1, 1) := by decide +kernel
theorem dX12_runs_18 : decode cX12_runs 18 = .ok (.iastore, 1) := by decide +kernel
theorem dX12_runs_19 : decode cX12_runs 19 = .ok (.aload_n 0, 1) := by decide +kernel
theorem dX12_runs_20 : decode cX12_runs 20 = .ok (.dup, 1) := by decide +kernel
theorem dX12_runs_21 : decode cX12_runs 21 = .ok (.getfield 290, 3) := by decide +kernel
theorem dX12_runs_24 : decode cX12_runs 24 = .ok (.iconst 1, 1) := by decide +kernel
theorem dX12_runs_25 : decode cX12_runs 25 = .ok (.iadd, 1) := by decide +kernel
theorem dX12_runs_26 : decode cX12_runs 26 = .ok (.putfield 290, 3) := by decide +kernel
theorem dX12_runs_29 : decode cX12_runs 29 = .ok (.return_, 1) := by decide +kernel
theorem dX12_speaks_0 : decode cX12_speaks 0 = .ok (.aload_n 0, 1) := by decide +kernel
theorem dX12_speaks_1 : decode cX12_speaks 1 = .ok (.getfield 293, 3) := by decide +kernel
theorem dX12_speaks_4 : decode cX12_speaks 4 = .ok (.iconst 2, 1) := by decide +kernel
theorem dX12_speaks_5 : decode cX12_speaks 5 = .ok (.if_icmp .eq 11, 3) := by decide +kernel
theorem dX12_speaks_8 : decode cX12_speaks 8 = .ok (.aload_n 0, 1) := by decide +kernel
theorem dX12_speaks_9 : decode cX12_speaks 9 = .ok (.getfield 293, 3) := by decide +kernel
theorem dX12_speaks_12 : decode cX12_speaks 12 = .ok (.iconst 4, 1) := by decide +kernel
theorem dX12_speaks_13 : decode cX12_speaks 13 = .ok (.if_icmp .ne 24, 3) := by decide +kernel
theorem dX12_speaks_16 : decode cX12_speaks 16 = .ok (.aload_n 0, 1) := by decide +kernel
theorem dX12_speaks_17 : decode cX12_speaks 17 = .ok (.bipush 30, 2) := by decide +kernel
theorem dX12_speaks_19 : decode cX12_speaks 19 = .ok (.invokevirtual 296, 3) := by decide +kernel
theorem dX12_speaks_22 : decode cX12_speaks 22 = .ok (.aload_n 0, 1) := by decide +kernel
theorem dX12_speaks_23 : decode cX12_speaks 23 = .ok (.bipush 10, 2) := by decide +kernel
theorem dX12_speaks_25 : decode cX12_speaks 25 = .ok (.invokevirtual 296, 3) := by decide +kernel
theorem dX12_speaks_28 : decode cX12_speaks 28 = .ok (.iload_n 1, 1) := by decide +kernel
theorem dX12_speaks_29 : decode cX12_speaks 29 = .ok (.aload_n 0, 1) := by decide +kernel
theorem dX12_speaks_30 : decode cX12_speaks 30 = .ok (.getfield 299, 3) := by decide +kernel
theorem dX12_speaks_33 : decode cX12_speaks 33 = .ok (.iadd, 1) := by decide +kernel
theorem dX12_speaks_34 : decode cX12_speaks 34 = .ok (.iconst 1, 1) := by decide +kernel
theorem dX12_speaks_35 : decode cX12_speaks 35 = .ok (.isub, 1) := by decide +kernel
theorem dX12_speaks_36 : decode cX12_speaks 36 = .ok (.ireturn, 1) := by decide +kernel
theorem dX12_speaks_37 : decode cX12_speaks 37 = .ok (.aload_n 0, 1) := by decide +kernel
theorem dX12_speaks_38 : decode cX12_speaks 38 = .ok (.getfield 293, 3) := by decide +kernel
theorem dX12_speaks_41 : decode cX12_speaks 41 = .ok (.iconst 5, 1) := by decide +kernel
theorem dX12_speaks_42 : decode cX12_speaks 42 = .ok (.if_icmp .ne 24, 3) := by decide +kernel
theorem dX12_speaks_45 : decode cX12_speaks 45 = .ok (.aload_n 0, 1) := by decide +kernel
theorem dX12_speaks_46 : decode cX12_speaks 46 = .ok (.bipush 60, 2) := by decide +kernel
theorem dX12_speaks_48 : decode cX12_speaks 48 = .ok (.invokevirtual 296, 3) := by decide +kernel
theorem dX12_speaks_51 : decode cX12_speaks 51 = .ok (.aload_n 0, 1) := by decide +kernel
theorem dX12_speaks_52 : decode cX12_speaks 52 = .ok (.bipush 10, 2) := by decide +kernel
theorem dX12_speaks_54 : decode cX12_speaks 54 = .ok (.invokevirtual 296, 3) := by decide +kernel
theorem dX12_speaks_57 : decode cX12_speaks 57 = .ok (.iload_n 1, 1) := by decide +kernel
theorem dX12_speaks_58 : decode cX12_speaks 58 = .ok (.aload_n 0, 1) := by decide +kernel
theorem dX12_speaks_59 : decode cX12_speaks 59 = .ok (.getfield 299, 3) := by decide +kernel
theorem dX12_speaks_62 : decode cX12_speaks 62 = .ok (.iadd, 1) := by decide +kernel
theorem dX12_speaks_63 : decode cX12_speaks 63 = .ok (.iconst 5, 1) := by decide +kernel
theorem dX12_speaks_64 : decode cX12_speaks 64 = .ok (.ixor, 1) := by decide +kernel
theorem dX12_speaks_65 : decode cX12_speaks 65 = .ok (.ireturn, 1) := by decide +kernel
theorem dX12_speaks_66 : decode cX12_speaks 66 = .ok (.aload_n 0, 1) := by decide +kernel
theorem dX12_speaks_67 : decode cX12_speaks 67 = .ok (.bipush 10, 2) := by decide +kernel
theorem dX12_speaks_69 : decode cX12_speaks 69 = .ok (.invokevirtual 296, 3) := by decide +kernel
theorem dX12_speaks_72 : decode cX12_speaks 72 = .ok (.iload_n 1, 1) := by decide +kernel
theorem dX12_speaks_73 : decode cX12_speaks 73 = .ok (.aload_n 0, 1) := by decide +kernel
theorem dX12_speaks_74 : decode cX12_speaks 74 = .ok (.getfield 299, 3) := by decide +kernel
theorem dX12_speaks_77 : decode cX12_speaks 77 = .ok (.iadd, 1) := by decide +kernel
theorem dX12_speaks_78 : decode cX12_speaks 78 = .ok (.ireturn, 1) := by decide +kernel
theorem dX12_dies_0 : decode cX12_dies 0 = .ok (.aload_n 0, 1) := by decide +kernel
theorem dX12_dies_1 : decode cX12_dies 1 = .ok (.getfield 293, 3) := by decide +kernel
theorem dX12_dies_4 : decode cX12_dies 4 = .ok (.iconst 3, 1) := by decide +kernel
theorem dX12_dies_5 : decode cX12_dies 5 = .ok (.if_icmp .ne 24, 3) := by decide +kernel
theorem dX12_dies_8 : decode cX12_dies 8 = .ok (.aload_n 0, 1) := by decide +kernel
theorem dX12_dies_9 : decode cX12_dies 9 = .ok (.bipush 40, 2) := by decide +kernel
theorem dX12_dies_11 : decode cX12_dies 11 = .ok (.invokevirtual 296, 3) := by decide +kernel
theorem dX12_dies_14 : decode cX12_dies 14 = .ok (.aload_n 0, 1) := by decide +kernel
theorem dX12_dies_15 : decode cX12_dies 15 = .ok (.bipush 12, 2) := by decide +kernel
theorem dX12_dies_17 : decode cX12_dies 17 = .ok (.invokevirtual 296, 3) := by decide +kernel
theorem dX12_dies_20 : decode cX12_dies 20 = .ok (.iload_n 1, 1) := by decide +kernel
theorem dX12_dies_21 : decode cX12_dies 21 = .ok (.aload_n 0, 1) := by decide +kernel
theorem dX12_dies_22 : decode cX12_dies 22 = .ok (.getfield 302, 3) := by decide +kernel
theorem dX12_dies_25 : decode cX12_dies 25 = .ok (.isub, 1) := by decide +kernel
theorem dX12_dies_26 : decode cX12_dies 26 = .ok (.iconst 3, 1) := by decide +kernel
theorem dX12_dies_27 : decode cX12_dies 27 = .ok (.imul, 1) := by decide +kernel
theorem dX12_dies_28 : decode cX12_dies 28 = .ok (.ireturn, 1) := by decide +kernel
theorem dX12_dies_29 : decode cX12_dies 29 = .ok (.aload_n 0, 1) := by decide +kernel
theorem dX12_dies_30 : decode cX12_dies 30 = .ok (.bipush 12, 2) := by decide +kernel
theorem dX12_dies_32 : decode cX12_dies 32 = .ok (.invokevirtual 296, 3) := by decide +kernel
theorem dX12_dies_35 : decode cX12_dies 35 = .ok (.iload_n 1, 1) := by decide +kernel
theorem dX12_dies_36 : decode cX12_dies 36 = .ok (.aload_n 0, 1) := by decide +kernel
theorem dX12_dies_37 : decode cX12_dies 37 = .ok (.getfield 302, 3) := by decide +kernel
theorem dX12_dies_40 : decode cX12_dies 40 = .ok (.isub, 1) := by decide +kernel
theorem dX12_dies_41 : decode cX12_dies 41 = .ok (.ireturn, 1) := by decide +kernel
theorem dX12_walksPart_0 : decode cX12_walksPart 0 = .ok (.aload_n 0, 1) := by decide +kernel
theorem dX12_walksPart_1 : decode cX12_walksPart 1 = .ok (.bipush 11, 2) := by decide +kernel
theorem dX12_walksPart_3 : decode cX12_walksPart 3 = .ok (.invokevirtual 296, 3) := by decide +kernel
theorem dX12_walksPart_6 : decode cX12_walksPart 6 = .ok (.aload_n 0, 1) := by decide +kernel
theorem dX12_walksPart_7 : decode cX12_walksPart 7 = .ok (.iload_n 1, 1) := by decide +kernel
theorem dX12_walksPart_8 : decode cX12_walksPart 8 = .ok (.invokevirtual 305, 3) := by decide +kernel
theorem dX12_walksPart_11 : decode cX12_walksPart 11 = .ok (.iconst 2, 1) := by decide +kernel
theorem dX12_walksPart_12 : decode cX12_walksPart 12 = .ok (.imul, 1) := by decide +kernel
theorem dX12_walksPart_13 : decode cX12_walksPart 13 = .ok (.ireturn, 1) := by decide +kernel
theorem dX12_walksSpoken_0 : decode cX12_walksSpoken 0 = .ok (.aload_n 0, 1) := by decide +kernel
theorem dX12_walksSpoken_1 : decode cX12_walksSpoken 1 = .ok (.bipush 20, 2) := by decide +kernel
theorem dX12_walksSpoken_3 : decode cX12_walksSpoken 3 = .ok (.invokevirtual 296, 3) := by decide +kernel
theorem dX12_walksSpoken_6 : decode cX12_walksSpoken 6 = .ok (.aload_n 0, 1) := by decide +kernel
theorem dX12_walksSpoken_7 : decode cX12_walksSpoken 7 = .ok (.iload_n 1, 1) := by decide +kernel
theorem dX12_walksSpoken_8 : decode cX12_walksSpoken 8 = .ok (.invokevirtual 308, 3) := by decide +kernel
theorem dX12_walksSpoken_11 : decode cX12_walksSpoken 11 = .ok (.istore_n 2, 1) := by decide +kernel
theorem dX12_walksSpoken_12 : decode cX12_walksSpoken 12 = .ok (.iload_n 2, 1) := by decide +kernel
theorem dX12_walksSpoken_13 : decode cX12_walksSpoken 13 = .ok (.aload_n 0, 1) := by decide +kernel
theorem dX12_walksSpoken_14 : decode cX12_walksSpoken 14 = .ok (.iload_n 1, 1) := by decide +kernel
theorem dX12_walksSpoken_15 : decode cX12_walksSpoken 15 = .ok (.invokevirtual 311, 3) := by decide +kernel
theorem dX12_walksSpoken_18 : decode cX12_walksSpoken 18 = .ok (.iadd, 1) := by decide +kernel
theorem dX12_walksSpoken_19 : decode cX12_walksSpoken 19 = .ok (.ireturn, 1) := by decide +kernel
theorem dX12_walks_0 : decode cX12_walks 0 = .ok (.aload_n 0, 1) := by decide +kernel
theorem dX12_walks_1 : decode cX12_walks 1 = .ok (.getfield 293, 3) := by decide +kernel
theorem dX12_walks_4 : decode cX12_walks 4 = .ok (.iconst 3, 1) := by decide +kernel
theorem dX12_walks_5 : decode cX12_walks 5 = .ok (.if_icmp .ne 20, 3) := by decide +kernel
theorem dX12_walks_8 : decode cX12_walks 8 = .ok (.aload_n 0, 1) := by decide +kernel
theorem dX12_walks_9 : decode cX12_walks 9 = .ok (.bipush 41, 2) := by decide +kernel
theorem dX12_walks_11 : decode cX12_walks 11 = .ok (.invokevirtual 296, 3) := by decide +kernel
theorem dX12_walks_14 : decode cX12_walks 14 = .ok (.aload_n 0, 1) := by decide +kernel
theorem dX12_walks_15 : decode cX12_walks 15 = .ok (.iload_n 1, 1) := by decide +kernel
theorem dX12_walks_16 : decode cX12_walks 16 = .ok (.aload_n 0, 1) := by decide +kernel
theorem dX12_walks_17 : decode cX12_walks 17 = .ok (.getfield 302, 3) := by decide +kernel
theorem dX12_walks_20 : decode cX12_walks 20 = .ok (.isub, 1) := by decide +kernel
theorem dX12_walks_21 : decode cX12_walks 21 = .ok (.invokevirtual 314, 3) := by decide +kernel
theorem dX12_walks_24 : decode cX12_walks 24 = .ok (.ireturn, 1) := by decide +kernel
theorem dX12_walks_25 : decode cX12_walks 25 = .ok (.aload_n 0, 1) := by decide +kernel
theorem dX12_walks_26 : decode cX12_walks 26 = .ok (.getfield 293, 3) := by decide +kernel
theorem dX12_walks_29 : decode cX12_walks 29 = .ok (.iconst 5, 1) := by decide +kernel
theorem dX12_walks_30 : decode cX12_walks 30 = .ok (.if_icmp .ne 23, 3) := by decide +kernel
theorem dX12_walks_33 : decode cX12_walks 33 = .ok (.aload_n 0, 1) := by decide +kernel
theorem dX12_walks_34 : decode cX12_walks 34 = .ok (.bipush 61, 2) := by decide +kernel
theorem dX12_walks_36 : decode cX12_walks 36 = .ok (.invokevirtual 296, 3) := by decide +kernel
theorem dX12_walks_39 : decode cX12_walks 39 = .ok (.aload_n 0, 1) := by decide +kernel
theorem dX12_walks_40 : decode cX12_walks 40 = .ok (.iload_n 1, 1) := by decide +kernel
theorem dX12_walks_41 : decode cX12_walks 41 = .ok (.invokevirtual 314, 3) := by decide +kernel
theorem dX12_walks_44 : decode cX12_walks 44 = .ok (.istore_n 2, 1) := by decide +kernel
theorem dX12_walks_45 : decode cX12_walks 45 = .ok (.iload_n 2, 1) := by decide +kernel
theorem dX12_walks_46 : decode cX12_walks 46 = .ok (.aload_n 0, 1) := by decide +kernel
theorem dX12_walks_47 : decode cX12_walks 47 = .ok (.iconst 1, 1) := by decide +kernel
theorem dX12_walks_48 : decode cX12_walks 48 = .ok (.invokevirtual 305, 3) := by decide +kernel
theorem dX12_walks_51 : decode cX12_walks 51 = .ok (.iadd, 1) := by decide +kernel
theorem dX12_walks_52 : decode cX12_walks 52 = .ok (.ireturn, 1) := by decide +kernel
theorem dX12_walks_53 : decode cX12_walks 53 = .ok (.aload_n 0, 1) := by decide +kernel
theorem dX12_walks_54 : decode cX12_walks 54 = .ok (.getfield 293, 3) := by decide +kernel
theorem dX12_walks_57 : decode cX12_walks 57 = .ok (.iconst 1, 1) := by decide +kernel
theorem dX12_walks_58 : decode cX12_walks 58 = .ok (.if_icmp .ne 11, 3) := by decide +kernel
theorem dX12_walks_61 : decode cX12_walks 61 = .ok (.aload_n 0, 1) := by decide +kernel
theorem dX12_walks_62 : decode cX12_walks 62 = .ok (.iload_n 1, 1) := by decide +kernel
theorem dX12_walks_63 : decode cX12_walks 63 = .ok (.invokevirtual 314, 3) := by decide +kernel
theorem dX12_walks_66 : decode cX12_walks 66 = .ok (.goto 8, 3) := by decide +kernel
theorem dX12_walks_69 : decode cX12_walks 69 = .ok (.aload_n 0, 1) := by decide +kernel
theorem dX12_walks_70 : decode cX12_walks 70 = .ok (.iload_n 1, 1) := by decide +kernel
theorem dX12_walks_71 : decode cX12_walks 71 = .ok (.invokevirtual 308, 3) := by decide +kernel
theorem dX12_walks_74 : decode cX12_walks 74 = .ok (.ireturn, 1) := by decide +kernel
theorem dX12_bowsPart_0 : decode cX12_bowsPart 0 = .ok (.aload_n 0, 1) := by decide +kernel
theorem dX12_bowsPart_1 : decode cX12_bowsPart 1 = .ok (.bipush 13, 2) := by decide +kernel
theorem dX12_bowsPart_3 : decode cX12_bowsPart 3 = .ok (.invokevirtual 296, 3) := by decide +kernel
theorem dX12_bowsPart_6 : decode cX12_bowsPart 6 = .ok (.aload_n 0, 1) := by decide +kernel
theorem dX12_bowsPart_7 : decode cX12_bowsPart 7 = .ok (.iload_n 1, 1) := by decide +kernel
theorem dX12_bowsPart_8 : decode cX12_bowsPart 8 = .ok (.invokevirtual 317, 3) := by decide +kernel
theorem dX12_bowsPart_11 : decode cX12_bowsPart 11 = .ok (.istore_n 2, 1) := by decide +kernel
theorem dX12_bowsPart_12 : decode cX12_bowsPart 12 = .ok (.iload_n 2, 1) := by decide +kernel
theorem dX12_bowsPart_13 : decode cX12_bowsPart 13 = .ok (.aload_n 0, 1) := by decide +kernel
theorem dX12_bowsPart_14 : decode cX12_bowsPart 14 = .ok (.iload_n 1, 1) := by decide +kernel
theorem dX12_bowsPart_15 : decode cX12_bowsPart 15 = .ok (.invokevirtual 311, 3) := by decide +kernel
theorem dX12_bowsPart_18 : decode cX12_bowsPart 18 = .ok (.ixor, 1) := by decide +kernel
theorem dX12_bowsPart_19 : decode cX12_bowsPart 19 = .ok (.ireturn, 1) := by decide +kernel
theorem dX12_bowsMute_0 : decode cX12_bowsMute 0 = .ok (.aload_n 0, 1) := by decide +kernel
theorem dX12_bowsMute_1 : decode cX12_bowsMute 1 = .ok (.bipush 31, 2) := by decide +kernel
theorem dX12_bowsMute_3 : decode cX12_bowsMute 3 = .ok (.invokevirtual 296, 3) := by decide +kernel
theorem dX12_bowsMute_6 : decode cX12_bowsMute 6 = .ok (.aload_n 0, 1) := by decide +kernel
theorem dX12_bowsMute_7 : decode cX12_bowsMute 7 = .ok (.iload_n 1, 1) := by decide +kernel
theorem dX12_bowsMute_8 : decode cX12_bowsMute 8 = .ok (.iconst 1, 1) := by decide +kernel
theorem dX12_bowsMute_9 : decode cX12_bowsMute 9 = .ok (.iadd, 1) := by decide +kernel
theorem dX12_bowsMute_10 : decode cX12_bowsMute 10 = .ok (.invokevirtual 320, 3) := by decide +kernel
theorem dX12_bowsMute_13 : decode cX12_bowsMute 13 = .ok (.ireturn, 1) := by decide +kernel
theorem dX12_bows_0 : decode cX12_bows 0 = .ok (.aload_n 0, 1) := by decide +kernel
theorem dX12_bows_1 : decode cX12_bows 1 = .ok (.getfield 293, 3) := by decide +kernel
theorem dX12_bows_4 : decode cX12_bows 4 = .ok (.iconst 4, 1) := by decide +kernel
theorem dX12_bows_5 : decode cX12_bows 5 = .ok (.if_icmp .ne 23, 3) := by decide +kernel
theorem dX12_bows_8 : decode cX12_bows 8 = .ok (.aload_n 0, 1) := by decide +kernel
theorem dX12_bows_9 : decode cX12_bows 9 = .ok (.bipush 50, 2) := by decide +kernel
theorem dX12_bows_11 : decode cX12_bows 11 = .ok (.invokevirtual 296, 3) := by decide +kernel
theorem dX12_bows_14 : decode cX12_bows 14 = .ok (.aload_n 0, 1) := by decide +kernel
theorem dX12_bows_15 : decode cX12_bows 15 = .ok (.iload_n 1, 1) := by decide +kernel
theorem dX12_bows_16 : decode cX12_bows 16 = .ok (.invokevirtual 311, 3) := by decide +kernel
theorem dX12_bows_19 : decode cX12_bows 19 = .ok (.istore_n 2, 1) := by decide +kernel
theorem dX12_bows_20 : decode cX12_bows 20 = .ok (.iload_n 2, 1) := by decide +kernel
theorem dX12_bows_21 : decode cX12_bows 21 = .ok (.aload_n 0, 1) := by decide +kernel
theorem dX12_bows_22 : decode cX12_bows 22 = .ok (.iload_n 1, 1) := by decide +kernel
theorem dX12_bows_23 : decode cX12_bows 23 = .ok (.invokevirtual 323, 3) := by decide +kernel
theorem dX12_bows_26 : decode cX12_bows 26 = .ok (.isub, 1) := by decide +kernel
theorem dX12_bows_27 : decode cX12_bows 27 = .ok (.ireturn, 1) := by decide +kernel
theorem dX12_bows_28 : decode cX12_bows 28 = .ok (.aload_n 0, 1) := by decide +kernel
theorem dX12_bows_29 : decode cX12_bows 29 = .ok (.getfield 293, 3) := by decide +kernel
theorem dX12_bows_32 : decode cX12_bows 32 = .ok (.iconst 2, 1) := by decide +kernel
theorem dX12_bows_33 : decode cX12_bows 33 = .ok (.if_icmp .ne 11, 3) := by decide +kernel
theorem dX12_bows_36 : decode cX12_bows 36 = .ok (.aload_n 0, 1) := by decide +kernel
theorem dX12_bows_37 : decode cX12_bows 37 = .ok (.iload_n 1, 1) := by decide +kernel
theorem dX12_bows_38 : decode cX12_bows 38 = .ok (.invokevirtual 323, 3) := by decide +kernel
theorem dX12_bows_41 : decode cX12_bows 41 = .ok (.goto 8, 3) := by decide +kernel
theorem dX12_bows_44 : decode cX12_bows 44 = .ok (.aload_n 0, 1) := by decide +kernel
theorem dX12_bows_45 : decode cX12_bows 45 = .ok (.iload_n 1, 1) := by decide +kernel
theorem dX12_bows_46 : decode cX12_bows 46 = .ok (.invokevirtual 320, 3) := by decide +kernel
theorem dX12_bows_49 : decode cX12_bows 49 = .ok (.ireturn, 1) := by decide +kernel
theorem dX12_voice_0 : decode cX12_voice 0 = .ok (.aload_n 0, 1) := by decide +kernel
theorem dX12_voice_1 : decode cX12_voice 1 = .ok (.iload_n 1, 1) := by decide +kernel
theorem dX12_voice_2 : decode cX12_voice 2 = .ok (.invokevirtual 110, 3) := by decide +kernel
theorem dX12_voice_5 : decode cX12_voice 5 = .ok (.ifCond .eq 12, 3) := by decide +kernel
theorem dX12_voice_8 : decode cX12_voice 8 = .ok (.iload_n 2, 1) := by decide +kernel
theorem dX12_voice_9 : decode cX12_voice 9 = .ok (.iconst 0, 1) := by decide +kernel
theorem dX12_voice_10 : decode cX12_voice 10 = .ok (.iconst 3, 1) := by decide +kernel
theorem dX12_voice_11 : decode cX12_voice 11 = .ok (.invokestatic 91, 3) := by decide +kernel
theorem dX12_voice_14 : decode cX12_voice 14 = .ok (.ifCond .ne 9, 3) := by decide +kernel
theorem dX12_voice_17 : decode cX12_voice 17 = .ok (.aload_n 0, 1) := by decide +kernel
theorem dX12_voice_18 : decode cX12_voice 18 = .ok (.iconst 1, 1) := by decide +kernel
theorem dX12_voice_19 : decode cX12_voice 19 = .ok (.invokevirtual 95, 3) := by decide +kernel
theorem dX12_voice_22 : decode cX12_voice 22 = .ok (.ireturn, 1) := by decide +kernel
theorem dX12_voice_23 : decode cX12_voice 23 = .ok (.aload_n 0, 1) := by decide +kernel
theorem dX12_voice_24 : decode cX12_voice 24 = .ok (.iconst 0, 1) := by decide +kernel
theorem dX12_voice_25 : decode cX12_voice 25 = .ok (.putfield 290, 3) := by decide +kernel
theorem dX12_voice_28 : decode cX12_voice 28 = .ok (.aload_n 0, 1) := by decide +kernel
theorem dX12_voice_29 : decode cX12_voice 29 = .ok (.aload_n 0, 1) := by decide +kernel
theorem dX12_voice_30 : decode cX12_voice 30 = .ok (.iload_n 1, 1) := by decide +kernel
theorem dX12_voice_31 : decode cX12_voice 31 = .ok (.iconst 0, 1) := by decide +kernel
theorem dX12_voice_32 : decode cX12_voice 32 = .ok (.invokevirtual 114, 3) := by decide +kernel
theorem dX12_voice_35 : decode cX12_voice 35 = .ok (.putfield 293, 3) := by decide +kernel
theorem dX12_voice_38 : decode cX12_voice 38 = .ok (.aload_n 0, 1) := by decide +kernel
theorem dX12_voice_39 : decode cX12_voice 39 = .ok (.iload_n 1, 1) := by decide +kernel
theorem dX12_voice_40 : decode cX12_voice 40 = .ok (.putfield 299, 3) := by decide +kernel
theorem dX12_voice_43 : decode cX12_voice 43 = .ok (.aload_n 0, 1) := by decide +kernel
theorem dX12_voice_44 : decode cX12_voice 44 = .ok (.aload_n 0, 1) := by decide +kernel
theorem dX12_voice_45 : decode cX12_voice 45 = .ok (.iload_n 1, 1) := by decide +kernel
theorem dX12_voice_46 : decode cX12_voice 46 = .ok (.iconst 3, 1) := by decide +kernel
theorem dX12_voice_47 : decode cX12_voice 47 = .ok (.invokevirtual 114, 3) := by decide +kernel
theorem dX12_voice_50 : decode cX12_voice 50 = .ok (.putfield 302, 3) := by decide +kernel
theorem dX12_voice_53 : decode cX12_voice 53 = .ok (.iload_n 2, 1) := by decide +kernel
theorem dX12_voice_54 : decode cX12_voice 54 = .ok (.ifCond .ne 11, 3) := by decide +kernel
theorem dX12_voice_57 : decode cX12_voice 57 = .ok (.aload_n 0, 1) := by decide +kernel
theorem dX12_voice_58 : decode cX12_voice 58 = .ok (.iload_n 3, 1) := by decide +kernel
theorem dX12_voice_59 : decode cX12_voice 59 = .ok (.invokevirtual 305, 3) := by decide +kernel
theorem dX12_voice_62 : decode cX12_voice 62 = .ok (.goto 34, 3) := by decide +kernel
theorem dX12_voice_65 : decode cX12_voice 65 = .ok (.iload_n 2, 1) := by decide +kernel
theorem dX12_voice_66 : decode cX12_voice 66 = .ok (.iconst 1, 1) := by decide +kernel
theorem dX12_voice_67 : decode cX12_voice 67 = .ok (.if_icmp .ne 11, 3) := by decide +kernel
theorem dX12_voice_70 : decode cX12_voice 70 = .ok (.aload_n 0, 1) := by decide +kernel
theorem dX12_voice_71 : decode cX12_voice 71 = .ok (.iload_n 3, 1) := by decide +kernel
theorem dX12_voice_72 : decode cX12_voice 72 = .ok (.invokevirtual 317, 3) := by decide +kernel
theorem dX12_voice_75 : decode cX12_voice 75 = .ok (.goto 21, 3) := by decide +kernel
theorem dX12_voice_78 : decode cX12_voice 78 = .ok (.iload_n 2, 1) := by decide +kernel
theorem dX12_voice_79 : decode cX12_voice 79 = .ok (.iconst 2, 1) := by decide +kernel
theorem dX12_voice_80 : decode cX12_voice 80 = .ok (.if_icmp .ne 11, 3) := by decide +kernel
theorem dX12_voice_83 : decode cX12_voice 83 = .ok (.aload_n 0, 1) := by decide +kernel
theorem dX12_voice_84 : decode cX12_voice 84 = .ok (.iload_n 3, 1) := by decide +kernel
theorem dX12_voice_85 : decode cX12_voice 85 = .ok (.invokevirtual 311, 3) := by decide +kernel
theorem dX12_voice_88 : decode cX12_voice 88 = .ok (.goto 8, 3) := by decide +kernel
theorem dX12_voice_91 : decode cX12_voice 91 = .ok (.aload_n 0, 1) := by decide +kernel
theorem dX12_voice_92 : decode cX12_voice 92 = .ok (.iload_n 3, 1) := by decide +kernel
theorem dX12_voice_93 : decode cX12_voice 93 = .ok (.invokevirtual 326, 3) := by decide +kernel
theorem dX12_voice_96 : decode cX12_voice 96 = .ok (.ireturn, 1) := by decide +kernel
theorem dX12_trace_0 : decode cX12_trace 0 = .ok (.iload_n 1, 1) := by decide +kernel
theorem dX12_trace_1 : decode cX12_trace 1 = .ok (.iconst 0, 1) := by decide +kernel
theorem dX12_trace_2 : decode cX12_trace 2 = .ok (.aload_n 0, 1) := by decide +kernel
theorem dX12_trace_3 : decode cX12_trace 3 = .ok (.getfield 290, 3) := by decide +kernel
theorem dX12_trace_6 : decode cX12_trace 6 = .ok (.iconst 1, 1) := by decide +kernel
theorem dX12_trace_7 : decode cX12_trace 7 = .ok (.isub, 1) := by decide +kernel
theorem dX12_trace_8 : decode cX12_trace 8 = .ok (.invokestatic 91, 3) := by decide +kernel
theorem dX12_trace_11 : decode cX12_trace 11 = .ok (.ifCond .eq 12, 3) := by decide +kernel
theorem dX12_trace_14 : decode cX12_trace 14 = .ok (.aload_n 0, 1) := by decide +kernel
theorem dX12_trace_15 : decode cX12_trace 15 = .ok (.getfield 75, 3) := by decide +kernel
theorem dX12_trace_18 : decode cX12_trace 18 = .ok (.iload_n 1, 1) := by decide +kernel
theorem dX12_trace_19 : decode cX12_trace 19 = .ok (.iaload, 1) := by decide +kernel
theorem dX12_trace_20 : decode cX12_trace 20 = .ok (.goto 8, 3) := by decide +kernel
theorem dX12_trace_23 : decode cX12_trace 23 = .ok (.aload_n 0, 1) := by decide +kernel
theorem dX12_trace_24 : decode cX12_trace 24 = .ok (.iconst 2, 1) := by decide +kernel
theorem dX12_trace_25 : decode cX12_trace 25 = .ok (.invokevirtual 95, 3) := by decide +kernel
theorem dX12_trace_28 : decode cX12_trace 28 = .ok (.ireturn, 1) := by decide +kernel
theorem dX12_isSheet_0 : decode cX12_isSheet 0 = .ok (.iload_n 0, 1) := by decide +kernel
theorem dX12_isSheet_1 : decode cX12_isSheet 1 = .ok (.iconst 0, 1) := by decide +kernel
theorem dX12_isSheet_2 : decode cX12_isSheet 2 = .ok (.iconst 3, 1) := by decide +kernel
theorem dX12_isSheet_3 : decode cX12_isSheet 3 = .ok (.invokestatic 91, 3) := by decide +kernel
theorem dX12_isSheet_6 : decode cX12_isSheet 6 = .ok (.ireturn, 1) := by decide +kernel
theorem dX12_sheet_0 : decode cX12_sheet 0 = .ok (.iload_n 1, 1) := by decide +kernel
theorem dX12_sheet_1 : decode cX12_sheet 1 = .ok (.invokestatic 240, 3) := by decide +kernel
theorem dX12_sheet_4 : decode cX12_sheet 4 = .ok (.ifCond .eq 25, 3) := by decide +kernel
theorem dX12_sheet_7 : decode cX12_sheet 7 = .ok (.iload_n 2, 1) := by decide +kernel
theorem dX12_sheet_8 : decode cX12_sheet 8 = .ok (.ifCond .eq 27, 3) := by decide +kernel
theorem dX12_sheet_11 : decode cX12_sheet 11 = .ok (.iload_n 2, 1) := by decide +kernel
theorem dX12_sheet_12 : decode cX12_sheet 12 = .ok (.bipush 8, 2) := by decide +kernel
theorem dX12_sheet_14 : decode cX12_sheet 14 = .ok (.if_icmp .eq 21, 3) := by decide +kernel
theorem dX12_sheet_17 : decode cX12_sheet 17 = .ok (.iload_n 2, 1) := by decide +kernel
theorem dX12_sheet_18 : decode cX12_sheet 18 = .ok (.bipush 16, 2) := by decide +kernel
theorem dX12_sheet_20 : decode cX12_sheet 20 = .ok (.if_icmp .eq 15, 3) := by decide +kernel
theorem dX12_sheet_23 : decode cX12_sheet 23 = .ok (.iload_n 2, 1) := by decide +kernel
theorem dX12_sheet_24 : decode cX12_sheet 24 = .ok (.bipush 32, 2) := by decide +kernel
theorem dX12_sheet_26 : decode cX12_sheet 26 = .ok (.if_icmp .eq 9, 3) := by decide +kernel
theorem dX12_sheet_29 : decode cX12_sheet 29 = .ok (.aload_n 0, 1) := by decide +kernel
theorem dX12_sheet_30 : decode cX12_sheet 30 = .ok (.iconst 1, 1) := by decide +kernel
theorem dX12_sheet_31 : decode cX12_sheet 31 = .ok (.invokevirtual 95, 3) := by decide +kernel
theorem dX12_sheet_34 : decode cX12_sheet 34 = .ok (.ireturn, 1) := by decide +kernel
theorem dX12_sheet_35 : decode cX12_sheet 35 = .ok (.iload_n 2, 1) := by decide +kernel
theorem dX12_sheet_36 : decode cX12_sheet 36 = .ok (.ifCond .eq 13, 3) := by decide +kernel
theorem dX12_sheet_39 : decode cX12_sheet 39 = .ok (.iload_n 3, 1) := by decide +kernel
theorem dX12_sheet_40 : decode cX12_sheet 40 = .ok (.ifCond .ge 9, 3) := by decide +kernel
theorem dX12_sheet_43 : decode cX12_sheet 43 = .ok (.aload_n 0, 1) := by decide +kernel
theorem dX12_sheet_44 : decode cX12_sheet 44 = .ok (.iconst 3, 1) := by decide +kernel
theorem dX12_sheet_45 : decode cX12_sheet 45 = .ok (.invokevirtual 95, 3) := by decide +kernel
theorem dX12_sheet_48 : decode cX12_sheet 48 = .ok (.ireturn, 1) := by decide +kernel
theorem dX12_sheet_49 : decode cX12_sheet 49 = .ok (.iload_n 2, 1) := by decide +kernel
theorem dX12_sheet_50 : decode cX12_sheet 50 = .ok (.ifCond .eq 15, 3) := by decide +kernel
theorem dX12_sheet_53 : decode cX12_sheet 53 = .ok (.iload_n 3, 1) := by decide +kernel
theorem dX12_sheet_54 : decode cX12_sheet 54 = .ok (.bipush 24, 2) := by decide +kernel
theorem dX12_sheet_56 : decode cX12_sheet 56 = .ok (.if_icmp .le 9, 3) := by decide +kernel
theorem dX12_sheet_59 : decode cX12_sheet 59 = .ok (.aload_n 0, 1) := by decide +kernel
theorem dX12_sheet_60 : decode cX12_sheet 60 = .ok (.iconst 1, 1) := by decide +kernel
theorem dX12_sheet_61 : decode cX12_sheet 61 = .ok (.invokevirtual 95, 3) := by decide +kernel
theorem dX12_sheet_64 : decode cX12_sheet 64 = .ok (.ireturn, 1) := by decide +kernel
theorem dX12_sheet_65 : decode cX12_sheet 65 = .ok (.aload_n 0, 1) := by decide +kernel
theorem dX12_sheet_66 : decode cX12_sheet 66 = .ok (.getfield 78, 3) := by decide +kernel
theorem dX12_sheet_69 : decode cX12_sheet 69 = .ok (.iload_n 1, 1) := by decide +kernel
theorem dX12_sheet_70 : decode cX12_sheet 70 = .ok (.iload_n 2, 1) := by decide +kernel
theorem dX12_sheet_71 : decode cX12_sheet 71 = .ok (.iastore, 1) := by decide +kernel
theorem dX12_sheet_72 : decode cX12_sheet 72 = .ok (.aload_n 0, 1) := by decide +kernel
theorem dX12_sheet_73 : decode cX12_sheet 73 = .ok (.getfield 81, 3) := by decide +kernel
theorem dX12_sheet_76 : decode cX12_sheet 76 = .ok (.iload_n 1, 1) := by decide +kernel
