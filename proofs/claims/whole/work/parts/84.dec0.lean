/-! the law, decoded -/
theorem dL_0 : decode code 0 = .ok (.new 7, 3) := by decide +kernel
theorem dL_3 : decode code 3 = .ok (.dup, 1) := by decide +kernel
theorem dL_4 : decode code 4 = .ok (.invokespecial 9, 3) := by decide +kernel
theorem dL_7 : decode code 7 = .ok (.astore_n 1, 1) := by decide +kernel
theorem dL_8 : decode code 8 = .ok (.new 10, 3) := by decide +kernel
theorem dL_11 : decode code 11 = .ok (.dup, 1) := by decide +kernel
theorem dL_12 : decode code 12 = .ok (.invokespecial 12, 3) := by decide +kernel
theorem dL_15 : decode code 15 = .ok (.astore_n 2, 1) := by decide +kernel
theorem dL_16 : decode code 16 = .ok (.iconst 0, 1) := by decide +kernel
theorem dL_17 : decode code 17 = .ok (.istore_n 3, 1) := by decide +kernel
theorem dL_18 : decode code 18 = .ok (.iload_n 3, 1) := by decide +kernel
theorem dL_19 : decode code 19 = .ok (.aload_n 0, 1) := by decide +kernel
theorem dL_20 : decode code 20 = .ok (.arraylength, 1) := by decide +kernel
theorem dL_21 : decode code 21 = .ok (.bipush 7, 2) := by decide +kernel
theorem dL_23 : decode code 23 = .ok (.isub, 1) := by decide +kernel
theorem dL_24 : decode code 24 = .ok (.if_icmp .gt 737, 3) := by decide +kernel
theorem dL_27 : decode code 27 = .ok (.aload_n 0, 1) := by decide +kernel
theorem dL_28 : decode code 28 = .ok (.iload_n 3, 1) := by decide +kernel
theorem dL_29 : decode code 29 = .ok (.iaload, 1) := by decide +kernel
theorem dL_30 : decode code 30 = .ok (.bipush 31, 2) := by decide +kernel
theorem dL_32 : decode code 32 = .ok (.iand, 1) := by decide +kernel
theorem dL_33 : decode code 33 = .ok (.tableswitch 722 0 21 #[103, 178, 201, 244, 277, 330, 363, 406, 459, 492, 505, 518, 531, 564, 577, 590, 603, 636, 659, 672, 685, 708], 103) := by decide +kernel
theorem dL_136 : decode code 136 = .ok (.aload_n 1, 1) := by decide +kernel
theorem dL_137 : decode code 137 = .ok (.aload_n 0, 1) := by decide +kernel
theorem dL_138 : decode code 138 = .ok (.iload_n 3, 1) := by decide +kernel
theorem dL_139 : decode code 139 = .ok (.iconst 1, 1) := by decide +kernel
theorem dL_140 : decode code 140 = .ok (.iadd, 1) := by decide +kernel
theorem dL_141 : decode code 141 = .ok (.iaload, 1) := by decide +kernel
theorem dL_142 : decode code 142 = .ok (.aload_n 0, 1) := by decide +kernel
theorem dL_143 : decode code 143 = .ok (.iload_n 3, 1) := by decide +kernel
theorem dL_144 : decode code 144 = .ok (.iconst 2, 1) := by decide +kernel
theorem dL_145 : decode code 145 = .ok (.iadd, 1) := by decide +kernel
theorem dL_146 : decode code 146 = .ok (.iaload, 1) := by decide +kernel
theorem dL_147 : decode code 147 = .ok (.aload_n 0, 1) := by decide +kernel
theorem dL_148 : decode code 148 = .ok (.iload_n 3, 1) := by decide +kernel
theorem dL_149 : decode code 149 = .ok (.iconst 3, 1) := by decide +kernel
theorem dL_150 : decode code 150 = .ok (.iadd, 1) := by decide +kernel
theorem dL_151 : decode code 151 = .ok (.iaload, 1) := by decide +kernel
theorem dL_152 : decode code 152 = .ok (.aload_n 0, 1) := by decide +kernel
theorem dL_153 : decode code 153 = .ok (.iload_n 3, 1) := by decide +kernel
theorem dL_154 : decode code 154 = .ok (.iconst 4, 1) := by decide +kernel
theorem dL_155 : decode code 155 = .ok (.iadd, 1) := by decide +kernel
theorem dL_156 : decode code 156 = .ok (.iaload, 1) := by decide +kernel
theorem dL_157 : decode code 157 = .ok (.aload_n 0, 1) := by decide +kernel
theorem dL_158 : decode code 158 = .ok (.iload_n 3, 1) := by decide +kernel
theorem dL_159 : decode code 159 = .ok (.iconst 5, 1) := by decide +kernel
theorem dL_160 : decode code 160 = .ok (.iadd, 1) := by decide +kernel
theorem dL_161 : decode code 161 = .ok (.iaload, 1) := by decide +kernel
theorem dL_162 : decode code 162 = .ok (.aload_n 0, 1) := by decide +kernel
theorem dL_163 : decode code 163 = .ok (.iload_n 3, 1) := by decide +kernel
theorem dL_164 : decode code 164 = .ok (.bipush 6, 2) := by decide +kernel
theorem dL_166 : decode code 166 = .ok (.iadd, 1) := by decide +kernel
theorem dL_167 : decode code 167 = .ok (.iaload, 1) := by decide +kernel
theorem dL_168 : decode code 168 = .ok (.invokevirtual 13, 3) := by decide +kernel
theorem dL_171 : decode code 171 = .ok (.aload_n 2, 1) := by decide +kernel
theorem dL_172 : decode code 172 = .ok (.aload_n 0, 1) := by decide +kernel
theorem dL_173 : decode code 173 = .ok (.iload_n 3, 1) := by decide +kernel
theorem dL_174 : decode code 174 = .ok (.iconst 1, 1) := by decide +kernel
theorem dL_175 : decode code 175 = .ok (.iadd, 1) := by decide +kernel
theorem dL_176 : decode code 176 = .ok (.iaload, 1) := by decide +kernel
theorem dL_177 : decode code 177 = .ok (.aload_n 0, 1) := by decide +kernel
theorem dL_178 : decode code 178 = .ok (.iload_n 3, 1) := by decide +kernel
theorem dL_179 : decode code 179 = .ok (.iconst 2, 1) := by decide +kernel
theorem dL_180 : decode code 180 = .ok (.iadd, 1) := by decide +kernel
theorem dL_181 : decode code 181 = .ok (.iaload, 1) := by decide +kernel
theorem dL_182 : decode code 182 = .ok (.aload_n 0, 1) := by decide +kernel
theorem dL_183 : decode code 183 = .ok (.iload_n 3, 1) := by decide +kernel
theorem dL_184 : decode code 184 = .ok (.iconst 3, 1) := by decide +kernel
theorem dL_185 : decode code 185 = .ok (.iadd, 1) := by decide +kernel
theorem dL_186 : decode code 186 = .ok (.iaload, 1) := by decide +kernel
theorem dL_187 : decode code 187 = .ok (.aload_n 0, 1) := by decide +kernel
theorem dL_188 : decode code 188 = .ok (.iload_n 3, 1) := by decide +kernel
theorem dL_189 : decode code 189 = .ok (.iconst 4, 1) := by decide +kernel
theorem dL_190 : decode code 190 = .ok (.iadd, 1) := by decide +kernel
theorem dL_191 : decode code 191 = .ok (.iaload, 1) := by decide +kernel
theorem dL_192 : decode code 192 = .ok (.aload_n 0, 1) := by decide +kernel
theorem dL_193 : decode code 193 = .ok (.iload_n 3, 1) := by decide +kernel
theorem dL_194 : decode code 194 = .ok (.iconst 5, 1) := by decide +kernel
theorem dL_195 : decode code 195 = .ok (.iadd, 1) := by decide +kernel
theorem dL_196 : decode code 196 = .ok (.iaload, 1) := by decide +kernel
theorem dL_197 : decode code 197 = .ok (.aload_n 0, 1) := by decide +kernel
theorem dL_198 : decode code 198 = .ok (.iload_n 3, 1) := by decide +kernel
theorem dL_199 : decode code 199 = .ok (.bipush 6, 2) := by decide +kernel
theorem dL_201 : decode code 201 = .ok (.iadd, 1) := by decide +kernel
theorem dL_202 : decode code 202 = .ok (.iaload, 1) := by decide +kernel
