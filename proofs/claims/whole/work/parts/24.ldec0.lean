theorem d_Lw_law_0 : decode code 0 = .ok (.new 7, 3) := by decide +kernel
theorem d_Lw_law_3 : decode code 3 = .ok (.dup, 1) := by decide +kernel
theorem d_Lw_law_4 : decode code 4 = .ok (.aload_n 0, 1) := by decide +kernel
theorem d_Lw_law_5 : decode code 5 = .ok (.iconst 0, 1) := by decide +kernel
theorem d_Lw_law_6 : decode code 6 = .ok (.invokestatic 9, 3) := by decide +kernel
theorem d_Lw_law_9 : decode code 9 = .ok (.aload_n 0, 1) := by decide +kernel
theorem d_Lw_law_10 : decode code 10 = .ok (.iconst 1, 1) := by decide +kernel
theorem d_Lw_law_11 : decode code 11 = .ok (.invokestatic 9, 3) := by decide +kernel
theorem d_Lw_law_14 : decode code 14 = .ok (.invokespecial 15, 3) := by decide +kernel
theorem d_Lw_law_17 : decode code 17 = .ok (.astore_n 1, 1) := by decide +kernel
theorem d_Lw_law_18 : decode code 18 = .ok (.new 18, 3) := by decide +kernel
theorem d_Lw_law_21 : decode code 21 = .ok (.dup, 1) := by decide +kernel
theorem d_Lw_law_22 : decode code 22 = .ok (.aload_n 0, 1) := by decide +kernel
theorem d_Lw_law_23 : decode code 23 = .ok (.iconst 0, 1) := by decide +kernel
theorem d_Lw_law_24 : decode code 24 = .ok (.invokestatic 9, 3) := by decide +kernel
theorem d_Lw_law_27 : decode code 27 = .ok (.aload_n 0, 1) := by decide +kernel
theorem d_Lw_law_28 : decode code 28 = .ok (.iconst 1, 1) := by decide +kernel
theorem d_Lw_law_29 : decode code 29 = .ok (.invokestatic 9, 3) := by decide +kernel
theorem d_Lw_law_32 : decode code 32 = .ok (.invokespecial 20, 3) := by decide +kernel
theorem d_Lw_law_35 : decode code 35 = .ok (.astore_n 2, 1) := by decide +kernel
theorem d_Lw_law_36 : decode code 36 = .ok (.iconst 2, 1) := by decide +kernel
theorem d_Lw_law_37 : decode code 37 = .ok (.istore_n 3, 1) := by decide +kernel
theorem d_Lw_law_38 : decode code 38 = .ok (.iload_n 3, 1) := by decide +kernel
theorem d_Lw_law_39 : decode code 39 = .ok (.aload_n 0, 1) := by decide +kernel
theorem d_Lw_law_40 : decode code 40 = .ok (.arraylength, 1) := by decide +kernel
theorem d_Lw_law_41 : decode code 41 = .ok (.iconst 5, 1) := by decide +kernel
theorem d_Lw_law_42 : decode code 42 = .ok (.isub, 1) := by decide +kernel
theorem d_Lw_law_43 : decode code 43 = .ok (.if_icmp .gt (524), 3) := by decide +kernel
theorem d_Lw_law_46 : decode code 46 = .ok (.aload_n 0, 1) := by decide +kernel
theorem d_Lw_law_47 : decode code 47 = .ok (.iload_n 3, 1) := by decide +kernel
theorem d_Lw_law_48 : decode code 48 = .ok (.iaload, 1) := by decide +kernel
theorem d_Lw_law_49 : decode code 49 = .ok (.bipush 31, 2) := by decide +kernel
theorem d_Lw_law_51 : decode code 51 = .ok (.iand, 1) := by decide +kernel
theorem d_Lw_law_52 : decode code 52 = .ok (.tableswitch 509 0 18 #[92, 105, 158, 201, 234, 257, 280, 303, 316, 329, 342, 355, 368, 391, 404, 427, 460, 473, 496], 92) := by decide +kernel
theorem d_Lw_law_144 : decode code 144 = .ok (.aload_n 1, 1) := by decide +kernel
theorem d_Lw_law_145 : decode code 145 = .ok (.invokevirtual 21, 3) := by decide +kernel
theorem d_Lw_law_148 : decode code 148 = .ok (.aload_n 2, 1) := by decide +kernel
theorem d_Lw_law_149 : decode code 149 = .ok (.invokevirtual 25, 3) := by decide +kernel
theorem d_Lw_law_152 : decode code 152 = .ok (.if_icmp .eq (409), 3) := by decide +kernel
theorem d_Lw_law_155 : decode code 155 = .ok (.iconst 0, 1) := by decide +kernel
theorem d_Lw_law_156 : decode code 156 = .ok (.ireturn, 1) := by decide +kernel
theorem d_Lw_law_157 : decode code 157 = .ok (.aload_n 1, 1) := by decide +kernel
theorem d_Lw_law_158 : decode code 158 = .ok (.aload_n 0, 1) := by decide +kernel
theorem d_Lw_law_159 : decode code 159 = .ok (.iload_n 3, 1) := by decide +kernel
theorem d_Lw_law_160 : decode code 160 = .ok (.iconst 1, 1) := by decide +kernel
theorem d_Lw_law_161 : decode code 161 = .ok (.iadd, 1) := by decide +kernel
theorem d_Lw_law_162 : decode code 162 = .ok (.iaload, 1) := by decide +kernel
theorem d_Lw_law_163 : decode code 163 = .ok (.aload_n 0, 1) := by decide +kernel
theorem d_Lw_law_164 : decode code 164 = .ok (.iload_n 3, 1) := by decide +kernel
theorem d_Lw_law_165 : decode code 165 = .ok (.iconst 2, 1) := by decide +kernel
theorem d_Lw_law_166 : decode code 166 = .ok (.iadd, 1) := by decide +kernel
theorem d_Lw_law_167 : decode code 167 = .ok (.iaload, 1) := by decide +kernel
theorem d_Lw_law_168 : decode code 168 = .ok (.aload_n 0, 1) := by decide +kernel
theorem d_Lw_law_169 : decode code 169 = .ok (.iload_n 3, 1) := by decide +kernel
theorem d_Lw_law_170 : decode code 170 = .ok (.iconst 3, 1) := by decide +kernel
theorem d_Lw_law_171 : decode code 171 = .ok (.iadd, 1) := by decide +kernel
theorem d_Lw_law_172 : decode code 172 = .ok (.iaload, 1) := by decide +kernel
theorem d_Lw_law_173 : decode code 173 = .ok (.aload_n 0, 1) := by decide +kernel
theorem d_Lw_law_174 : decode code 174 = .ok (.iload_n 3, 1) := by decide +kernel
theorem d_Lw_law_175 : decode code 175 = .ok (.iconst 4, 1) := by decide +kernel
