theorem dl_0 : decode code 0 = .ok (.new 7, 3) := by decide +kernel
theorem dl_3 : decode code 3 = .ok (.dup, 1) := by decide +kernel
theorem dl_4 : decode code 4 = .ok (.invokespecial 9, 3) := by decide +kernel
theorem dl_7 : decode code 7 = .ok (.astore_n 1, 1) := by decide +kernel
theorem dl_8 : decode code 8 = .ok (.new 10, 3) := by decide +kernel
theorem dl_11 : decode code 11 = .ok (.dup, 1) := by decide +kernel
theorem dl_12 : decode code 12 = .ok (.invokespecial 12, 3) := by decide +kernel
theorem dl_15 : decode code 15 = .ok (.astore_n 2, 1) := by decide +kernel
theorem dl_16 : decode code 16 = .ok (.iconst 0, 1) := by decide +kernel
theorem dl_17 : decode code 17 = .ok (.istore_n 3, 1) := by decide +kernel
theorem dl_18 : decode code 18 = .ok (.iload_n 3, 1) := by decide +kernel
theorem dl_19 : decode code 19 = .ok (.aload_n 0, 1) := by decide +kernel
theorem dl_20 : decode code 20 = .ok (.arraylength, 1) := by decide +kernel
theorem dl_21 : decode code 21 = .ok (.iconst 5, 1) := by decide +kernel
theorem dl_22 : decode code 22 = .ok (.isub, 1) := by decide +kernel
theorem dl_23 : decode code 23 = .ok (.if_icmp .gt 973, 3) := by decide +kernel
theorem dl_26 : decode code 26 = .ok (.aload_n 0, 1) := by decide +kernel
theorem dl_27 : decode code 27 = .ok (.iload_n 3, 1) := by decide +kernel
theorem dl_28 : decode code 28 = .ok (.iaload, 1) := by decide +kernel
theorem dl_29 : decode code 29 = .ok (.bipush 31, 2) := by decide +kernel
theorem dl_31 : decode code 31 = .ok (.iand, 1) := by decide +kernel
theorem dl_32 : decode code 32 = .ok (.tableswitch 958 0 29 #[136, 179, 202, 235, 278, 291, 334, 357, 370, 433, 446, 459, 492, 515, 538, 551, 574, 597, 620, 663, 706, 719, 752, 805, 828, 852, 875, 898, 921, 944], 136) := by decide +kernel
theorem dl_168 : decode code 168 = .ok (.aload_n 1, 1) := by decide +kernel
theorem dl_169 : decode code 169 = .ok (.aload_n 0, 1) := by decide +kernel
theorem dl_170 : decode code 170 = .ok (.iload_n 3, 1) := by decide +kernel
theorem dl_171 : decode code 171 = .ok (.iconst 1, 1) := by decide +kernel
theorem dl_172 : decode code 172 = .ok (.iadd, 1) := by decide +kernel
theorem dl_173 : decode code 173 = .ok (.iaload, 1) := by decide +kernel
theorem dl_174 : decode code 174 = .ok (.aload_n 0, 1) := by decide +kernel
theorem dl_175 : decode code 175 = .ok (.iload_n 3, 1) := by decide +kernel
theorem dl_176 : decode code 176 = .ok (.iconst 2, 1) := by decide +kernel
theorem dl_177 : decode code 177 = .ok (.iadd, 1) := by decide +kernel
theorem dl_178 : decode code 178 = .ok (.iaload, 1) := by decide +kernel
theorem dl_179 : decode code 179 = .ok (.aload_n 0, 1) := by decide +kernel
theorem dl_180 : decode code 180 = .ok (.iload_n 3, 1) := by decide +kernel
theorem dl_181 : decode code 181 = .ok (.iconst 3, 1) := by decide +kernel
theorem dl_182 : decode code 182 = .ok (.iadd, 1) := by decide +kernel
theorem dl_183 : decode code 183 = .ok (.iaload, 1) := by decide +kernel
theorem dl_184 : decode code 184 = .ok (.invokevirtual 13, 3) := by decide +kernel
theorem dl_187 : decode code 187 = .ok (.aload_n 2, 1) := by decide +kernel
theorem dl_188 : decode code 188 = .ok (.aload_n 0, 1) := by decide +kernel
theorem dl_189 : decode code 189 = .ok (.iload_n 3, 1) := by decide +kernel
theorem dl_190 : decode code 190 = .ok (.iconst 1, 1) := by decide +kernel
theorem dl_191 : decode code 191 = .ok (.iadd, 1) := by decide +kernel
theorem dl_192 : decode code 192 = .ok (.iaload, 1) := by decide +kernel
theorem dl_193 : decode code 193 = .ok (.aload_n 0, 1) := by decide +kernel
theorem dl_194 : decode code 194 = .ok (.iload_n 3, 1) := by decide +kernel
theorem dl_195 : decode code 195 = .ok (.iconst 2, 1) := by decide +kernel
theorem dl_196 : decode code 196 = .ok (.iadd, 1) := by decide +kernel
theorem dl_197 : decode code 197 = .ok (.iaload, 1) := by decide +kernel
theorem dl_198 : decode code 198 = .ok (.aload_n 0, 1) := by decide +kernel
theorem dl_199 : decode code 199 = .ok (.iload_n 3, 1) := by decide +kernel
theorem dl_200 : decode code 200 = .ok (.iconst 3, 1) := by decide +kernel
theorem dl_201 : decode code 201 = .ok (.iadd, 1) := by decide +kernel
theorem dl_202 : decode code 202 = .ok (.iaload, 1) := by decide +kernel
theorem dl_203 : decode code 203 = .ok (.invokevirtual 17, 3) := by decide +kernel
theorem dl_206 : decode code 206 = .ok (.if_icmp .eq 784, 3) := by decide +kernel
theorem dl_209 : decode code 209 = .ok (.iconst 0, 1) := by decide +kernel
theorem dl_210 : decode code 210 = .ok (.ireturn, 1) := by decide +kernel
theorem dl_211 : decode code 211 = .ok (.aload_n 1, 1) := by decide +kernel
theorem dl_212 : decode code 212 = .ok (.aload_n 0, 1) := by decide +kernel
theorem dl_213 : decode code 213 = .ok (.iload_n 3, 1) := by decide +kernel
theorem dl_214 : decode code 214 = .ok (.iconst 1, 1) := by decide +kernel
theorem dl_215 : decode code 215 = .ok (.iadd, 1) := by decide +kernel
theorem dl_216 : decode code 216 = .ok (.iaload, 1) := by decide +kernel
theorem dl_217 : decode code 217 = .ok (.invokevirtual 18, 3) := by decide +kernel
theorem dl_220 : decode code 220 = .ok (.aload_n 2, 1) := by decide +kernel
theorem dl_221 : decode code 221 = .ok (.aload_n 0, 1) := by decide +kernel
theorem dl_222 : decode code 222 = .ok (.iload_n 3, 1) := by decide +kernel
theorem dl_223 : decode code 223 = .ok (.iconst 1, 1) := by decide +kernel
theorem dl_224 : decode code 224 = .ok (.iadd, 1) := by decide +kernel
theorem dl_225 : decode code 225 = .ok (.iaload, 1) := by decide +kernel
theorem dl_226 : decode code 226 = .ok (.invokevirtual 22, 3) := by decide +kernel
theorem dl_229 : decode code 229 = .ok (.if_icmp .eq 761, 3) := by decide +kernel
theorem dl_232 : decode code 232 = .ok (.iconst 0, 1) := by decide +kernel
theorem dl_233 : decode code 233 = .ok (.ireturn, 1) := by decide +kernel
theorem dl_234 : decode code 234 = .ok (.aload_n 1, 1) := by decide +kernel
theorem dl_235 : decode code 235 = .ok (.aload_n 0, 1) := by decide +kernel
theorem dl_236 : decode code 236 = .ok (.iload_n 3, 1) := by decide +kernel
theorem dl_237 : decode code 237 = .ok (.iconst 1, 1) := by decide +kernel
theorem dl_238 : decode code 238 = .ok (.iadd, 1) := by decide +kernel
theorem dl_239 : decode code 239 = .ok (.iaload, 1) := by decide +kernel
theorem dl_240 : decode code 240 = .ok (.aload_n 0, 1) := by decide +kernel
theorem dl_241 : decode code 241 = .ok (.iload_n 3, 1) := by decide +kernel
theorem dl_242 : decode code 242 = .ok (.iconst 2, 1) := by decide +kernel
theorem dl_243 : decode code 243 = .ok (.iadd, 1) := by decide +kernel
theorem dl_244 : decode code 244 = .ok (.iaload, 1) := by decide +kernel
theorem dl_245 : decode code 245 = .ok (.invokevirtual 23, 3) := by decide +kernel
theorem dl_248 : decode code 248 = .ok (.aload_n 2, 1) := by decide +kernel
theorem dl_249 : decode code 249 = .ok (.aload_n 0, 1) := by decide +kernel
theorem dl_250 : decode code 250 = .ok (.iload_n 3, 1) := by decide +kernel
theorem dl_251 : decode code 251 = .ok (.iconst 1, 1) := by decide +kernel
theorem dl_252 : decode code 252 = .ok (.iadd, 1) := by decide +kernel
theorem dl_253 : decode code 253 = .ok (.iaload, 1) := by decide +kernel
theorem dl_254 : decode code 254 = .ok (.aload_n 0, 1) := by decide +kernel
