theorem d_Lw_law_176 : decode code 176 = .ok (.iadd, 1) := by decide +kernel
theorem d_Lw_law_177 : decode code 177 = .ok (.iaload, 1) := by decide +kernel
theorem d_Lw_law_178 : decode code 178 = .ok (.invokevirtual 26, 3) := by decide +kernel
theorem d_Lw_law_181 : decode code 181 = .ok (.aload_n 2, 1) := by decide +kernel
theorem d_Lw_law_182 : decode code 182 = .ok (.aload_n 0, 1) := by decide +kernel
theorem d_Lw_law_183 : decode code 183 = .ok (.iload_n 3, 1) := by decide +kernel
theorem d_Lw_law_184 : decode code 184 = .ok (.iconst 1, 1) := by decide +kernel
theorem d_Lw_law_185 : decode code 185 = .ok (.iadd, 1) := by decide +kernel
theorem d_Lw_law_186 : decode code 186 = .ok (.iaload, 1) := by decide +kernel
theorem d_Lw_law_187 : decode code 187 = .ok (.aload_n 0, 1) := by decide +kernel
theorem d_Lw_law_188 : decode code 188 = .ok (.iload_n 3, 1) := by decide +kernel
theorem d_Lw_law_189 : decode code 189 = .ok (.iconst 2, 1) := by decide +kernel
theorem d_Lw_law_190 : decode code 190 = .ok (.iadd, 1) := by decide +kernel
theorem d_Lw_law_191 : decode code 191 = .ok (.iaload, 1) := by decide +kernel
theorem d_Lw_law_192 : decode code 192 = .ok (.aload_n 0, 1) := by decide +kernel
theorem d_Lw_law_193 : decode code 193 = .ok (.iload_n 3, 1) := by decide +kernel
theorem d_Lw_law_194 : decode code 194 = .ok (.iconst 3, 1) := by decide +kernel
theorem d_Lw_law_195 : decode code 195 = .ok (.iadd, 1) := by decide +kernel
theorem d_Lw_law_196 : decode code 196 = .ok (.iaload, 1) := by decide +kernel
theorem d_Lw_law_197 : decode code 197 = .ok (.aload_n 0, 1) := by decide +kernel
theorem d_Lw_law_198 : decode code 198 = .ok (.iload_n 3, 1) := by decide +kernel
theorem d_Lw_law_199 : decode code 199 = .ok (.iconst 4, 1) := by decide +kernel
theorem d_Lw_law_200 : decode code 200 = .ok (.iadd, 1) := by decide +kernel
theorem d_Lw_law_201 : decode code 201 = .ok (.iaload, 1) := by decide +kernel
theorem d_Lw_law_202 : decode code 202 = .ok (.invokevirtual 30, 3) := by decide +kernel
theorem d_Lw_law_205 : decode code 205 = .ok (.if_icmp .eq (356), 3) := by decide +kernel
theorem d_Lw_law_208 : decode code 208 = .ok (.iconst 0, 1) := by decide +kernel
theorem d_Lw_law_209 : decode code 209 = .ok (.ireturn, 1) := by decide +kernel
theorem d_Lw_law_210 : decode code 210 = .ok (.aload_n 1, 1) := by decide +kernel
theorem d_Lw_law_211 : decode code 211 = .ok (.aload_n 0, 1) := by decide +kernel
theorem d_Lw_law_212 : decode code 212 = .ok (.iload_n 3, 1) := by decide +kernel
theorem d_Lw_law_213 : decode code 213 = .ok (.iconst 1, 1) := by decide +kernel
theorem d_Lw_law_214 : decode code 214 = .ok (.iadd, 1) := by decide +kernel
theorem d_Lw_law_215 : decode code 215 = .ok (.iaload, 1) := by decide +kernel
theorem d_Lw_law_216 : decode code 216 = .ok (.aload_n 0, 1) := by decide +kernel
theorem d_Lw_law_217 : decode code 217 = .ok (.iload_n 3, 1) := by decide +kernel
theorem d_Lw_law_218 : decode code 218 = .ok (.iconst 2, 1) := by decide +kernel
theorem d_Lw_law_219 : decode code 219 = .ok (.iadd, 1) := by decide +kernel
theorem d_Lw_law_220 : decode code 220 = .ok (.iaload, 1) := by decide +kernel
theorem d_Lw_law_221 : decode code 221 = .ok (.aload_n 0, 1) := by decide +kernel
theorem d_Lw_law_222 : decode code 222 = .ok (.iload_n 3, 1) := by decide +kernel
theorem d_Lw_law_223 : decode code 223 = .ok (.iconst 3, 1) := by decide +kernel
theorem d_Lw_law_224 : decode code 224 = .ok (.iadd, 1) := by decide +kernel
theorem d_Lw_law_225 : decode code 225 = .ok (.iaload, 1) := by decide +kernel
theorem d_Lw_law_226 : decode code 226 = .ok (.invokevirtual 31, 3) := by decide +kernel
theorem d_Lw_law_229 : decode code 229 = .ok (.aload_n 2, 1) := by decide +kernel
theorem d_Lw_law_230 : decode code 230 = .ok (.aload_n 0, 1) := by decide +kernel
theorem d_Lw_law_231 : decode code 231 = .ok (.iload_n 3, 1) := by decide +kernel
theorem d_Lw_law_232 : decode code 232 = .ok (.iconst 1, 1) := by decide +kernel
theorem d_Lw_law_233 : decode code 233 = .ok (.iadd, 1) := by decide +kernel
theorem d_Lw_law_234 : decode code 234 = .ok (.iaload, 1) := by decide +kernel
theorem d_Lw_law_235 : decode code 235 = .ok (.aload_n 0, 1) := by decide +kernel
theorem d_Lw_law_236 : decode code 236 = .ok (.iload_n 3, 1) := by decide +kernel
theorem d_Lw_law_237 : decode code 237 = .ok (.iconst 2, 1) := by decide +kernel
theorem d_Lw_law_238 : decode code 238 = .ok (.iadd, 1) := by decide +kernel
theorem d_Lw_law_239 : decode code 239 = .ok (.iaload, 1) := by decide +kernel
theorem d_Lw_law_240 : decode code 240 = .ok (.aload_n 0, 1) := by decide +kernel
theorem d_Lw_law_241 : decode code 241 = .ok (.iload_n 3, 1) := by decide +kernel
theorem d_Lw_law_242 : decode code 242 = .ok (.iconst 3, 1) := by decide +kernel
theorem d_Lw_law_243 : decode code 243 = .ok (.iadd, 1) := by decide +kernel
