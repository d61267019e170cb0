theorem d_Law_0 : decode code 0 = .ok (.new 7, 3) := by decide +kernel
theorem d_Law_3 : decode code 3 = .ok (.dup, 1) := by decide +kernel
theorem d_Law_4 : decode code 4 = .ok (.invokespecial 9, 3) := by decide +kernel
theorem d_Law_7 : decode code 7 = .ok (.astore_n 1, 1) := by decide +kernel
theorem d_Law_8 : decode code 8 = .ok (.new 10, 3) := by decide +kernel
theorem d_Law_11 : decode code 11 = .ok (.dup, 1) := by decide +kernel
theorem d_Law_12 : decode code 12 = .ok (.invokespecial 12, 3) := by decide +kernel
theorem d_Law_15 : decode code 15 = .ok (.astore_n 2, 1) := by decide +kernel
theorem d_Law_16 : decode code 16 = .ok (.iconst 0, 1) := by decide +kernel
theorem d_Law_17 : decode code 17 = .ok (.istore_n 3, 1) := by decide +kernel
theorem d_Law_18 : decode code 18 = .ok (.iload_n 3, 1) := by decide +kernel
theorem d_Law_19 : decode code 19 = .ok (.aload_n 0, 1) := by decide +kernel
theorem d_Law_20 : decode code 20 = .ok (.arraylength, 1) := by decide +kernel
theorem d_Law_21 : decode code 21 = .ok (.bipush 8, 2) := by decide +kernel
theorem d_Law_23 : decode code 23 = .ok (.isub, 1) := by decide +kernel
theorem d_Law_24 : decode code 24 = .ok (.if_icmp .gt 722, 3) := by decide +kernel
theorem d_Law_27 : decode code 27 = .ok (.aload_n 0, 1) := by decide +kernel
theorem d_Law_28 : decode code 28 = .ok (.iload_n 3, 1) := by decide +kernel
theorem d_Law_29 : decode code 29 = .ok (.iaload, 1) := by decide +kernel
theorem d_Law_30 : decode code 30 = .ok (.bipush 15, 2) := by decide +kernel
theorem d_Law_32 : decode code 32 = .ok (.iand, 1) := by decide +kernel
theorem d_Law_33 : decode code 33 = .ok (.tableswitch 707 0 12 #[67, 130, 163, 176, 209, 242, 285, 319, 388, 431, 538, 601, 674], 67) := by decide +kernel
theorem d_Law_100 : decode code 100 = .ok (.aload_n 1, 1) := by decide +kernel
theorem d_Law_101 : decode code 101 = .ok (.aload_n 0, 1) := by decide +kernel
theorem d_Law_102 : decode code 102 = .ok (.iload_n 3, 1) := by decide +kernel
theorem d_Law_103 : decode code 103 = .ok (.iconst 1, 1) := by decide +kernel
theorem d_Law_104 : decode code 104 = .ok (.iadd, 1) := by decide +kernel
theorem d_Law_105 : decode code 105 = .ok (.iaload, 1) := by decide +kernel
theorem d_Law_106 : decode code 106 = .ok (.aload_n 0, 1) := by decide +kernel
theorem d_Law_107 : decode code 107 = .ok (.iload_n 3, 1) := by decide +kernel
theorem d_Law_108 : decode code 108 = .ok (.iconst 2, 1) := by decide +kernel
theorem d_Law_109 : decode code 109 = .ok (.iadd, 1) := by decide +kernel
theorem d_Law_110 : decode code 110 = .ok (.iaload, 1) := by decide +kernel
theorem d_Law_111 : decode code 111 = .ok (.aload_n 0, 1) := by decide +kernel
theorem d_Law_112 : decode code 112 = .ok (.iload_n 3, 1) := by decide +kernel
theorem d_Law_113 : decode code 113 = .ok (.iconst 3, 1) := by decide +kernel
theorem d_Law_114 : decode code 114 = .ok (.iadd, 1) := by decide +kernel
theorem d_Law_115 : decode code 115 = .ok (.iaload, 1) := by decide +kernel
theorem d_Law_116 : decode code 116 = .ok (.aload_n 0, 1) := by decide +kernel
theorem d_Law_117 : decode code 117 = .ok (.iload_n 3, 1) := by decide +kernel
theorem d_Law_118 : decode code 118 = .ok (.iconst 4, 1) := by decide +kernel
theorem d_Law_119 : decode code 119 = .ok (.iadd, 1) := by decide +kernel
theorem d_Law_120 : decode code 120 = .ok (.iaload, 1) := by decide +kernel
theorem d_Law_121 : decode code 121 = .ok (.aload_n 0, 1) := by decide +kernel
theorem d_Law_122 : decode code 122 = .ok (.iload_n 3, 1) := by decide +kernel
theorem d_Law_123 : decode code 123 = .ok (.iconst 5, 1) := by decide +kernel
theorem d_Law_124 : decode code 124 = .ok (.iadd, 1) := by decide +kernel
theorem d_Law_125 : decode code 125 = .ok (.iaload, 1) := by decide +kernel
theorem d_Law_126 : decode code 126 = .ok (.invokevirtual 13, 3) := by decide +kernel
theorem d_Law_129 : decode code 129 = .ok (.aload_n 2, 1) := by decide +kernel
theorem d_Law_130 : decode code 130 = .ok (.aload_n 0, 1) := by decide +kernel
theorem d_Law_131 : decode code 131 = .ok (.iload_n 3, 1) := by decide +kernel
theorem d_Law_132 : decode code 132 = .ok (.iconst 1, 1) := by decide +kernel
theorem d_Law_133 : decode code 133 = .ok (.iadd, 1) := by decide +kernel
theorem d_Law_134 : decode code 134 = .ok (.iaload, 1) := by decide +kernel
theorem d_Law_135 : decode code 135 = .ok (.aload_n 0, 1) := by decide +kernel
theorem d_Law_136 : decode code 136 = .ok (.iload_n 3, 1) := by decide +kernel
theorem d_Law_137 : decode code 137 = .ok (.iconst 2, 1) := by decide +kernel
theorem d_Law_138 : decode code 138 = .ok (.iadd, 1) := by decide +kernel
theorem d_Law_139 : decode code 139 = .ok (.iaload, 1) := by decide +kernel
theorem d_Law_140 : decode code 140 = .ok (.aload_n 0, 1) := by decide +kernel
theorem d_Law_141 : decode code 141 = .ok (.iload_n 3, 1) := by decide +kernel
theorem d_Law_142 : decode code 142 = .ok (.iconst 3, 1) := by decide +kernel
theorem d_Law_143 : decode code 143 = .ok (.iadd, 1) := by decide +kernel
theorem d_Law_144 : decode code 144 = .ok (.iaload, 1) := by decide +kernel
theorem d_Law_145 : decode code 145 = .ok (.aload_n 0, 1) := by decide +kernel
theorem d_Law_146 : decode code 146 = .ok (.iload_n 3, 1) := by decide +kernel
theorem d_Law_147 : decode code 147 = .ok (.iconst 4, 1) := by decide +kernel
theorem d_Law_148 : decode code 148 = .ok (.iadd, 1) := by decide +kernel
theorem d_Law_149 : decode code 149 = .ok (.iaload, 1) := by decide +kernel
theorem d_Law_150 : decode code 150 = .ok (.aload_n 0, 1) := by decide +kernel
theorem d_Law_151 : decode code 151 = .ok (.iload_n 3, 1) := by decide +kernel
theorem d_Law_152 : decode code 152 = .ok (.iconst 5, 1) := by decide +kernel
theorem d_Law_153 : decode code 153 = .ok (.iadd, 1) := by decide +kernel
theorem d_Law_154 : decode code 154 = .ok (.iaload, 1) := by decide +kernel
theorem d_Law_155 : decode code 155 = .ok (.invokevirtual 17, 3) := by decide +kernel
theorem d_Law_158 : decode code 158 = .ok (.if_icmp .eq 582, 3) := by decide +kernel
theorem d_Law_161 : decode code 161 = .ok (.iconst 0, 1) := by decide +kernel
theorem d_Law_162 : decode code 162 = .ok (.ireturn, 1) := by decide +kernel
theorem d_Law_163 : decode code 163 = .ok (.aload_n 1, 1) := by decide +kernel
theorem d_Law_164 : decode code 164 = .ok (.aload_n 0, 1) := by decide +kernel
theorem d_Law_165 : decode code 165 = .ok (.iload_n 3, 1) := by decide +kernel
theorem d_Law_166 : decode code 166 = .ok (.iconst 1, 1) := by decide +kernel
theorem d_Law_167 : decode code 167 = .ok (.iadd, 1) := by decide +kernel
theorem d_Law_168 : decode code 168 = .ok (.iaload, 1) := by decide +kernel
theorem d_Law_169 : decode code 169 = .ok (.aload_n 0, 1) := by decide +kernel
theorem d_Law_170 : decode code 170 = .ok (.iload_n 3, 1) := by decide +kernel
theorem d_Law_171 : decode code 171 = .ok (.iconst 2, 1) := by decide +kernel
theorem d_Law_172 : decode code 172 = .ok (.iadd, 1) := by decide +kernel
theorem d_Law_173 : decode code 173 = .ok (.iaload, 1) := by decide +kernel
theorem d_Law_174 : decode code 174 = .ok (.invokevirtual 18, 3) := by decide +kernel
theorem d_Law_177 : decode code 177 = .ok (.aload_n 2, 1) := by decide +kernel
theorem d_Law_178 : decode code 178 = .ok (.aload_n 0, 1) := by decide +kernel
theorem d_Law_179 : decode code 179 = .ok (.iload_n 3, 1) := by decide +kernel
theorem d_Law_180 : decode code 180 = .ok (.iconst 1, 1) := by decide +kernel
theorem d_Law_181 : decode code 181 = .ok (.iadd, 1) := by decide +kernel
theorem d_Law_182 : decode code 182 = .ok (.iaload, 1) := by decide +kernel
theorem d_Law_183 : decode code 183 = .ok (.aload_n 0, 1) := by decide +kernel
theorem d_Law_184 : decode code 184 = .ok (.iload_n 3, 1) := by decide +kernel
theorem d_Law_185 : decode code 185 = .ok (.iconst 2, 1) := by decide +kernel
theorem d_Law_186 : decode code 186 = .ok (.iadd, 1) := by decide +kernel
theorem d_Law_187 : decode code 187 = .ok (.iaload, 1) := by decide +kernel
theorem d_Law_188 : decode code 188 = .ok (.invokevirtual 22, 3) := by decide +kernel
theorem d_Law_191 : decode code 191 = .ok (.if_icmp .eq 549, 3) := by decide +kernel
theorem d_Law_194 : decode code 194 = .ok (.iconst 0, 1) := by decide +kernel
theorem d_Law_195 : decode code 195 = .ok (.ireturn, 1) := by decide +kernel
theorem d_Law_196 : decode code 196 = .ok (.aload_n 1, 1) := by decide +kernel
theorem d_Law_197 : decode code 197 = .ok (.invokevirtual 23, 3) := by decide +kernel
theorem d_Law_200 : decode code 200 = .ok (.aload_n 2, 1) := by decide +kernel
theorem d_Law_201 : decode code 201 = .ok (.invokevirtual 27, 3) := by decide +kernel
theorem d_Law_204 : decode code 204 = .ok (.if_icmp .eq 536, 3) := by decide +kernel
theorem d_Law_207 : decode code 207 = .ok (.iconst 0, 1) := by decide +kernel
theorem d_Law_208 : decode code 208 = .ok (.ireturn, 1) := by decide +kernel
theorem d_Law_209 : decode code 209 = .ok (.aload_n 1, 1) := by decide +kernel
theorem d_Law_210 : decode code 210 = .ok (.aload_n 0, 1) := by decide +kernel
theorem d_Law_211 : decode code 211 = .ok (.iload_n 3, 1) := by decide +kernel
theorem d_Law_212 : decode code 212 = .ok (.iconst 1, 1) := by decide +kernel
theorem d_Law_213 : decode code 213 = .ok (.iadd, 1) := by decide +kernel
theorem d_Law_214 : decode code 214 = .ok (.iaload, 1) := by decide +kernel
theorem d_Law_215 : decode code 215 = .ok (.aload_n 0, 1) := by decide +kernel
theorem d_Law_216 : decode code 216 = .ok (.iload_n 3, 1) := by decide +kernel
theorem d_Law_217 : decode code 217 = .ok (.iconst 2, 1) := by decide +kernel
theorem d_Law_218 : decode code 218 = .ok (.iadd, 1) := by decide +kernel
theorem d_Law_219 : decode code 219 = .ok (.iaload, 1) := by decide +kernel
theorem d_Law_220 : decode code 220 = .ok (.invokevirtual 28, 3) := by decide +kernel
theorem d_Law_223 : decode code 223 = .ok (.aload_n 2, 1) := by decide +kernel
theorem d_Law_224 : decode code 224 = .ok (.aload_n 0, 1) := by decide +kernel
theorem d_Law_225 : decode code 225 = .ok (.iload_n 3, 1) := by decide +kernel
theorem d_Law_226 : decode code 226 = .ok (.iconst 1, 1) := by decide +kernel
theorem d_Law_227 : decode code 227 = .ok (.iadd, 1) := by decide +kernel
theorem d_Law_228 : decode code 228 = .ok (.iaload, 1) := by decide +kernel
theorem d_Law_229 : decode code 229 = .ok (.aload_n 0, 1) := by decide +kernel
theorem d_Law_230 : decode code 230 = .ok (.iload_n 3, 1) := by decide +kernel
theorem d_Law_231 : decode code 231 = .ok (.iconst 2, 1) := by decide +kernel
theorem d_Law_232 : decode code 232 = .ok (.iadd, 1) := by decide +kernel
theorem d_Law_233 : decode code 233 = .ok (.iaload, 1) := by decide +kernel
theorem d_Law_234 : decode code 234 = .ok (.invokevirtual 31, 3) := by decide +kernel
theorem d_Law_237 : decode code 237 = .ok (.if_icmp .eq 503, 3) := by decide +kernel
theorem d_Law_240 : decode code 240 = .ok (.iconst 0, 1) := by decide +kernel
theorem d_Law_241 : decode code 241 = .ok (.ireturn, 1) := by decide +kernel
theorem d_Law_242 : decode code 242 = .ok (.aload_n 1, 1) := by decide +kernel
theorem d_Law_243 : decode code 243 = .ok (.aload_n 0, 1) := by decide +kernel
theorem d_Law_244 : decode code 244 = .ok (.iload_n 3, 1) := by decide +kernel
theorem d_Law_245 : decode code 245 = .ok (.iconst 1, 1) := by decide +kernel
theorem d_Law_246 : decode code 246 = .ok (.iadd, 1) := by decide +kernel
theorem d_Law_247 : decode code 247 = .ok (.iaload, 1) := by decide +kernel
theorem d_Law_248 : decode code 248 = .ok (.aload_n 0, 1) := by decide +kernel
theorem d_Law_249 : decode code 249 = .ok (.iload_n 3, 1) := by decide +kernel
theorem d_Law_250 : decode code 250 = .ok (.iconst 2, 1) := by decide +kernel
theorem d_Law_251 : decode code 251 = .ok (.iadd, 1) := by decide +kernel
theorem d_Law_252 : decode code 252 = .ok (.iaload, 1) := by decide +kernel
theorem d_Law_253 : decode code 253 = .ok (.invokevirtual 32, 3) := by decide +kernel
theorem d_Law_256 : decode code 256 = .ok (.aload_n 2, 1) := by decide +kernel
theorem d_Law_257 : decode code 257 = .ok (.aload_n 0, 1) := by decide +kernel
theorem d_Law_258 : decode code 258 = .ok (.iload_n 3, 1) := by decide +kernel
theorem d_Law_259 : decode code 259 = .ok (.iconst 1, 1) := by decide +kernel
