-- Model_dutyRule Model_crewRule Model_clear Model_chain
def y_Model_dutyRule : MethodName := ⟨"CrewOfficeModel", "dutyRule", "()I"⟩
def u_Model_dutyRule : am_U := ("CrewOfficeModel", "dutyRule", prog_12_method_25_code, 4, (some .int), [])
def R_Model_dutyRule : Room := { frames := 4, cells := 0, slots := 0, locals := 92 }
theorem d_Model_dutyRule_0 : decode u_Model_dutyRule.2.2.1 0 = .ok (.iconst 0, 1) := by decide +kernel
theorem d_Model_dutyRule_1 : decode u_Model_dutyRule.2.2.1 1 = .ok (.istore_n 1, 1) := by decide +kernel
theorem d_Model_dutyRule_2 : decode u_Model_dutyRule.2.2.1 2 = .ok (.iload_n 1, 1) := by decide +kernel
theorem d_Model_dutyRule_3 : decode u_Model_dutyRule.2.2.1 3 = .ok (.aload_n 0, 1) := by decide +kernel
theorem d_Model_dutyRule_4 : decode u_Model_dutyRule.2.2.1 4 = .ok (.getfield 200, 3) := by decide +kernel
theorem d_Model_dutyRule_7 : decode u_Model_dutyRule.2.2.1 7 = .ok (.if_icmp .ge 35, 3) := by decide +kernel
theorem d_Model_dutyRule_10 : decode u_Model_dutyRule.2.2.1 10 = .ok (.aload_n 0, 1) := by decide +kernel
theorem d_Model_dutyRule_11 : decode u_Model_dutyRule.2.2.1 11 = .ok (.getfield 93, 3) := by decide +kernel
theorem d_Model_dutyRule_14 : decode u_Model_dutyRule.2.2.1 14 = .ok (.iload_n 1, 1) := by decide +kernel
theorem d_Model_dutyRule_15 : decode u_Model_dutyRule.2.2.1 15 = .ok (.iaload, 1) := by decide +kernel
theorem d_Model_dutyRule_16 : decode u_Model_dutyRule.2.2.1 16 = .ok (.aload_n 0, 1) := by decide +kernel
theorem d_Model_dutyRule_17 : decode u_Model_dutyRule.2.2.1 17 = .ok (.getfield 90, 3) := by decide +kernel
theorem d_Model_dutyRule_20 : decode u_Model_dutyRule.2.2.1 20 = .ok (.iload_n 1, 1) := by decide +kernel
theorem d_Model_dutyRule_21 : decode u_Model_dutyRule.2.2.1 21 = .ok (.iaload, 1) := by decide +kernel
theorem d_Model_dutyRule_22 : decode u_Model_dutyRule.2.2.1 22 = .ok (.isub, 1) := by decide +kernel
theorem d_Model_dutyRule_23 : decode u_Model_dutyRule.2.2.1 23 = .ok (.iconst 1, 1) := by decide +kernel
theorem d_Model_dutyRule_24 : decode u_Model_dutyRule.2.2.1 24 = .ok (.iadd, 1) := by decide +kernel
theorem d_Model_dutyRule_25 : decode u_Model_dutyRule.2.2.1 25 = .ok (.aload_n 0, 1) := by decide +kernel
theorem d_Model_dutyRule_26 : decode u_Model_dutyRule.2.2.1 26 = .ok (.getfield 78, 3) := by decide +kernel
theorem d_Model_dutyRule_29 : decode u_Model_dutyRule.2.2.1 29 = .ok (.iconst 5, 1) := by decide +kernel
theorem d_Model_dutyRule_30 : decode u_Model_dutyRule.2.2.1 30 = .ok (.iaload, 1) := by decide +kernel
theorem d_Model_dutyRule_31 : decode u_Model_dutyRule.2.2.1 31 = .ok (.if_icmp .le 5, 3) := by decide +kernel
theorem d_Model_dutyRule_34 : decode u_Model_dutyRule.2.2.1 34 = .ok (.iconst 3, 1) := by decide +kernel
theorem d_Model_dutyRule_35 : decode u_Model_dutyRule.2.2.1 35 = .ok (.ireturn, 1) := by decide +kernel
theorem d_Model_dutyRule_36 : decode u_Model_dutyRule.2.2.1 36 = .ok (.iinc 1 1, 3) := by decide +kernel
theorem d_Model_dutyRule_39 : decode u_Model_dutyRule.2.2.1 39 = .ok (.goto (-37), 3) := by decide +kernel
theorem d_Model_dutyRule_42 : decode u_Model_dutyRule.2.2.1 42 = .ok (.iconst 0, 1) := by decide +kernel
theorem d_Model_dutyRule_43 : decode u_Model_dutyRule.2.2.1 43 = .ok (.istore_n 1, 1) := by decide +kernel
theorem d_Model_dutyRule_44 : decode u_Model_dutyRule.2.2.1 44 = .ok (.iload_n 1, 1) := by decide +kernel
theorem d_Model_dutyRule_45 : decode u_Model_dutyRule.2.2.1 45 = .ok (.aload_n 0, 1) := by decide +kernel
theorem d_Model_dutyRule_46 : decode u_Model_dutyRule.2.2.1 46 = .ok (.getfield 200, 3) := by decide +kernel
theorem d_Model_dutyRule_49 : decode u_Model_dutyRule.2.2.1 49 = .ok (.if_icmp .ge 95, 3) := by decide +kernel
theorem d_Model_dutyRule_52 : decode u_Model_dutyRule.2.2.1 52 = .ok (.aload_n 0, 1) := by decide +kernel
theorem d_Model_dutyRule_53 : decode u_Model_dutyRule.2.2.1 53 = .ok (.aload_n 0, 1) := by decide +kernel
theorem d_Model_dutyRule_54 : decode u_Model_dutyRule.2.2.1 54 = .ok (.getfield 30, 3) := by decide +kernel
theorem d_Model_dutyRule_57 : decode u_Model_dutyRule.2.2.1 57 = .ok (.aload_n 0, 1) := by decide +kernel
theorem d_Model_dutyRule_58 : decode u_Model_dutyRule.2.2.1 58 = .ok (.getfield 87, 3) := by decide +kernel
theorem d_Model_dutyRule_61 : decode u_Model_dutyRule.2.2.1 61 = .ok (.aload_n 0, 1) := by decide +kernel
theorem d_Model_dutyRule_62 : decode u_Model_dutyRule.2.2.1 62 = .ok (.getfield 90, 3) := by decide +kernel
theorem d_Model_dutyRule_65 : decode u_Model_dutyRule.2.2.1 65 = .ok (.iload_n 1, 1) := by decide +kernel
theorem d_Model_dutyRule_66 : decode u_Model_dutyRule.2.2.1 66 = .ok (.iaload, 1) := by decide +kernel
theorem d_Model_dutyRule_67 : decode u_Model_dutyRule.2.2.1 67 = .ok (.iaload, 1) := by decide +kernel
theorem d_Model_dutyRule_68 : decode u_Model_dutyRule.2.2.1 68 = .ok (.iaload, 1) := by decide +kernel
theorem d_Model_dutyRule_69 : decode u_Model_dutyRule.2.2.1 69 = .ok (.aload_n 0, 1) := by decide +kernel
theorem d_Model_dutyRule_70 : decode u_Model_dutyRule.2.2.1 70 = .ok (.getfield 96, 3) := by decide +kernel
theorem d_Model_dutyRule_73 : decode u_Model_dutyRule.2.2.1 73 = .ok (.iload_n 1, 1) := by decide +kernel
theorem d_Model_dutyRule_74 : decode u_Model_dutyRule.2.2.1 74 = .ok (.iaload, 1) := by decide +kernel
theorem d_Model_dutyRule_75 : decode u_Model_dutyRule.2.2.1 75 = .ok (.invokevirtual 172, 3) := by decide +kernel
theorem d_Model_dutyRule_78 : decode u_Model_dutyRule.2.2.1 78 = .ok (.sipush 360, 3) := by decide +kernel
theorem d_Model_dutyRule_81 : decode u_Model_dutyRule.2.2.1 81 = .ok (.idiv, 1) := by decide +kernel
theorem d_Model_dutyRule_82 : decode u_Model_dutyRule.2.2.1 82 = .ok (.istore_n 2, 1) := by decide +kernel
theorem d_Model_dutyRule_83 : decode u_Model_dutyRule.2.2.1 83 = .ok (.aload_n 0, 1) := by decide +kernel
theorem d_Model_dutyRule_84 : decode u_Model_dutyRule.2.2.1 84 = .ok (.getfield 93, 3) := by decide +kernel
theorem d_Model_dutyRule_87 : decode u_Model_dutyRule.2.2.1 87 = .ok (.iload_n 1, 1) := by decide +kernel
theorem d_Model_dutyRule_88 : decode u_Model_dutyRule.2.2.1 88 = .ok (.iaload, 1) := by decide +kernel
theorem d_Model_dutyRule_89 : decode u_Model_dutyRule.2.2.1 89 = .ok (.aload_n 0, 1) := by decide +kernel
theorem d_Model_dutyRule_90 : decode u_Model_dutyRule.2.2.1 90 = .ok (.getfield 90, 3) := by decide +kernel
theorem d_Model_dutyRule_93 : decode u_Model_dutyRule.2.2.1 93 = .ok (.iload_n 1, 1) := by decide +kernel
theorem d_Model_dutyRule_94 : decode u_Model_dutyRule.2.2.1 94 = .ok (.iaload, 1) := by decide +kernel
theorem d_Model_dutyRule_95 : decode u_Model_dutyRule.2.2.1 95 = .ok (.isub, 1) := by decide +kernel
theorem d_Model_dutyRule_96 : decode u_Model_dutyRule.2.2.1 96 = .ok (.iconst 1, 1) := by decide +kernel
theorem d_Model_dutyRule_97 : decode u_Model_dutyRule.2.2.1 97 = .ok (.iadd, 1) := by decide +kernel
theorem d_Model_dutyRule_98 : decode u_Model_dutyRule.2.2.1 98 = .ok (.istore_n 3, 1) := by decide +kernel
theorem d_Model_dutyRule_99 : decode u_Model_dutyRule.2.2.1 99 = .ok (.aload_n 0, 1) := by decide +kernel
theorem d_Model_dutyRule_100 : decode u_Model_dutyRule.2.2.1 100 = .ok (.getfield 99, 3) := by decide +kernel
theorem d_Model_dutyRule_103 : decode u_Model_dutyRule.2.2.1 103 = .ok (.iload_n 1, 1) := by decide +kernel
theorem d_Model_dutyRule_104 : decode u_Model_dutyRule.2.2.1 104 = .ok (.iaload, 1) := by decide +kernel
theorem d_Model_dutyRule_105 : decode u_Model_dutyRule.2.2.1 105 = .ok (.aload_n 0, 1) := by decide +kernel
theorem d_Model_dutyRule_106 : decode u_Model_dutyRule.2.2.1 106 = .ok (.getfield 96, 3) := by decide +kernel
theorem d_Model_dutyRule_109 : decode u_Model_dutyRule.2.2.1 109 = .ok (.iload_n 1, 1) := by decide +kernel
theorem d_Model_dutyRule_110 : decode u_Model_dutyRule.2.2.1 110 = .ok (.iaload, 1) := by decide +kernel
theorem d_Model_dutyRule_111 : decode u_Model_dutyRule.2.2.1 111 = .ok (.isub, 1) := by decide +kernel
theorem d_Model_dutyRule_112 : decode u_Model_dutyRule.2.2.1 112 = .ok (.aload_n 0, 1) := by decide +kernel
theorem d_Model_dutyRule_113 : decode u_Model_dutyRule.2.2.1 113 = .ok (.getfield 81, 3) := by decide +kernel
theorem d_Model_dutyRule_116 : decode u_Model_dutyRule.2.2.1 116 = .ok (.iconst 4, 1) := by decide +kernel
theorem d_Model_dutyRule_117 : decode u_Model_dutyRule.2.2.1 117 = .ok (.iload_n 2, 1) := by decide +kernel
theorem d_Model_dutyRule_118 : decode u_Model_dutyRule.2.2.1 118 = .ok (.imul, 1) := by decide +kernel
theorem d_Model_dutyRule_119 : decode u_Model_dutyRule.2.2.1 119 = .ok (.iload_n 3, 1) := by decide +kernel
theorem d_Model_dutyRule_120 : decode u_Model_dutyRule.2.2.1 120 = .ok (.iconst 4, 1) := by decide +kernel
theorem d_Model_dutyRule_121 : decode u_Model_dutyRule.2.2.1 121 = .ok (.if_icmp .le 7, 3) := by decide +kernel
theorem d_Model_dutyRule_124 : decode u_Model_dutyRule.2.2.1 124 = .ok (.iconst 3, 1) := by decide +kernel
theorem d_Model_dutyRule_125 : decode u_Model_dutyRule.2.2.1 125 = .ok (.goto 6, 3) := by decide +kernel
theorem d_Model_dutyRule_128 : decode u_Model_dutyRule.2.2.1 128 = .ok (.iload_n 3, 1) := by decide +kernel
theorem d_Model_dutyRule_129 : decode u_Model_dutyRule.2.2.1 129 = .ok (.iconst 1, 1) := by decide +kernel
theorem d_Model_dutyRule_130 : decode u_Model_dutyRule.2.2.1 130 = .ok (.isub, 1) := by decide +kernel
theorem d_Model_dutyRule_131 : decode u_Model_dutyRule.2.2.1 131 = .ok (.iadd, 1) := by decide +kernel
theorem d_Model_dutyRule_132 : decode u_Model_dutyRule.2.2.1 132 = .ok (.iaload, 1) := by decide +kernel
theorem d_Model_dutyRule_133 : decode u_Model_dutyRule.2.2.1 133 = .ok (.if_icmp .le 5, 3) := by decide +kernel
theorem d_Model_dutyRule_136 : decode u_Model_dutyRule.2.2.1 136 = .ok (.iconst 4, 1) := by decide +kernel
theorem d_Model_dutyRule_137 : decode u_Model_dutyRule.2.2.1 137 = .ok (.ireturn, 1) := by decide +kernel
theorem d_Model_dutyRule_138 : decode u_Model_dutyRule.2.2.1 138 = .ok (.iinc 1 1, 3) := by decide +kernel
theorem d_Model_dutyRule_141 : decode u_Model_dutyRule.2.2.1 141 = .ok (.goto (-97), 3) := by decide +kernel
theorem d_Model_dutyRule_144 : decode u_Model_dutyRule.2.2.1 144 = .ok (.iconst 1, 1) := by decide +kernel
theorem d_Model_dutyRule_145 : decode u_Model_dutyRule.2.2.1 145 = .ok (.istore_n 1, 1) := by decide +kernel
theorem d_Model_dutyRule_146 : decode u_Model_dutyRule.2.2.1 146 = .ok (.iload_n 1, 1) := by decide +kernel
theorem d_Model_dutyRule_147 : decode u_Model_dutyRule.2.2.1 147 = .ok (.aload_n 0, 1) := by decide +kernel
theorem d_Model_dutyRule_148 : decode u_Model_dutyRule.2.2.1 148 = .ok (.getfield 200, 3) := by decide +kernel
theorem d_Model_dutyRule_151 : decode u_Model_dutyRule.2.2.1 151 = .ok (.if_icmp .ge 69, 3) := by decide +kernel
theorem d_Model_dutyRule_154 : decode u_Model_dutyRule.2.2.1 154 = .ok (.aload_n 0, 1) := by decide +kernel
theorem d_Model_dutyRule_155 : decode u_Model_dutyRule.2.2.1 155 = .ok (.getfield 99, 3) := by decide +kernel
theorem d_Model_dutyRule_158 : decode u_Model_dutyRule.2.2.1 158 = .ok (.iload_n 1, 1) := by decide +kernel
theorem d_Model_dutyRule_159 : decode u_Model_dutyRule.2.2.1 159 = .ok (.iconst 1, 1) := by decide +kernel
theorem d_Model_dutyRule_160 : decode u_Model_dutyRule.2.2.1 160 = .ok (.isub, 1) := by decide +kernel
theorem d_Model_dutyRule_161 : decode u_Model_dutyRule.2.2.1 161 = .ok (.iaload, 1) := by decide +kernel
theorem d_Model_dutyRule_162 : decode u_Model_dutyRule.2.2.1 162 = .ok (.aload_n 0, 1) := by decide +kernel
theorem d_Model_dutyRule_163 : decode u_Model_dutyRule.2.2.1 163 = .ok (.getfield 96, 3) := by decide +kernel
theorem d_Model_dutyRule_166 : decode u_Model_dutyRule.2.2.1 166 = .ok (.iload_n 1, 1) := by decide +kernel
theorem d_Model_dutyRule_167 : decode u_Model_dutyRule.2.2.1 167 = .ok (.iconst 1, 1) := by decide +kernel
theorem d_Model_dutyRule_168 : decode u_Model_dutyRule.2.2.1 168 = .ok (.isub, 1) := by decide +kernel
theorem d_Model_dutyRule_169 : decode u_Model_dutyRule.2.2.1 169 = .ok (.iaload, 1) := by decide +kernel
theorem d_Model_dutyRule_170 : decode u_Model_dutyRule.2.2.1 170 = .ok (.isub, 1) := by decide +kernel
theorem d_Model_dutyRule_171 : decode u_Model_dutyRule.2.2.1 171 = .ok (.istore_n 2, 1) := by decide +kernel
theorem d_Model_dutyRule_172 : decode u_Model_dutyRule.2.2.1 172 = .ok (.iload_n 2, 1) := by decide +kernel
theorem d_Model_dutyRule_173 : decode u_Model_dutyRule.2.2.1 173 = .ok (.aload_n 0, 1) := by decide +kernel
theorem d_Model_dutyRule_174 : decode u_Model_dutyRule.2.2.1 174 = .ok (.getfield 78, 3) := by decide +kernel
theorem d_Model_dutyRule_177 : decode u_Model_dutyRule.2.2.1 177 = .ok (.iconst 4, 1) := by decide +kernel
theorem d_Model_dutyRule_178 : decode u_Model_dutyRule.2.2.1 178 = .ok (.iaload, 1) := by decide +kernel
theorem d_Model_dutyRule_179 : decode u_Model_dutyRule.2.2.1 179 = .ok (.if_icmp .le 7, 3) := by decide +kernel
theorem d_Model_dutyRule_182 : decode u_Model_dutyRule.2.2.1 182 = .ok (.iload_n 2, 1) := by decide +kernel
theorem d_Model_dutyRule_183 : decode u_Model_dutyRule.2.2.1 183 = .ok (.goto 9, 3) := by decide +kernel
theorem d_Model_dutyRule_186 : decode u_Model_dutyRule.2.2.1 186 = .ok (.aload_n 0, 1) := by decide +kernel
theorem d_Model_dutyRule_187 : decode u_Model_dutyRule.2.2.1 187 = .ok (.getfield 78, 3) := by decide +kernel
theorem d_Model_dutyRule_190 : decode u_Model_dutyRule.2.2.1 190 = .ok (.iconst 4, 1) := by decide +kernel
theorem d_Model_dutyRule_191 : decode u_Model_dutyRule.2.2.1 191 = .ok (.iaload, 1) := by decide +kernel
theorem d_Model_dutyRule_192 : decode u_Model_dutyRule.2.2.1 192 = .ok (.istore_n 2, 1) := by decide +kernel
theorem d_Model_dutyRule_193 : decode u_Model_dutyRule.2.2.1 193 = .ok (.aload_n 0, 1) := by decide +kernel
theorem d_Model_dutyRule_194 : decode u_Model_dutyRule.2.2.1 194 = .ok (.getfield 96, 3) := by decide +kernel
theorem d_Model_dutyRule_197 : decode u_Model_dutyRule.2.2.1 197 = .ok (.iload_n 1, 1) := by decide +kernel
theorem d_Model_dutyRule_198 : decode u_Model_dutyRule.2.2.1 198 = .ok (.iaload, 1) := by decide +kernel
theorem d_Model_dutyRule_199 : decode u_Model_dutyRule.2.2.1 199 = .ok (.aload_n 0, 1) := by decide +kernel
theorem d_Model_dutyRule_200 : decode u_Model_dutyRule.2.2.1 200 = .ok (.getfield 99, 3) := by decide +kernel
theorem d_Model_dutyRule_203 : decode u_Model_dutyRule.2.2.1 203 = .ok (.iload_n 1, 1) := by decide +kernel
theorem d_Model_dutyRule_204 : decode u_Model_dutyRule.2.2.1 204 = .ok (.iconst 1, 1) := by decide +kernel
theorem d_Model_dutyRule_205 : decode u_Model_dutyRule.2.2.1 205 = .ok (.isub, 1) := by decide +kernel
theorem d_Model_dutyRule_206 : decode u_Model_dutyRule.2.2.1 206 = .ok (.iaload, 1) := by decide +kernel
theorem d_Model_dutyRule_207 : decode u_Model_dutyRule.2.2.1 207 = .ok (.iload_n 2, 1) := by decide +kernel
theorem d_Model_dutyRule_208 : decode u_Model_dutyRule.2.2.1 208 = .ok (.iadd, 1) := by decide +kernel
theorem d_Model_dutyRule_209 : decode u_Model_dutyRule.2.2.1 209 = .ok (.if_icmp .ge 5, 3) := by decide +kernel
theorem d_Model_dutyRule_212 : decode u_Model_dutyRule.2.2.1 212 = .ok (.iconst 5, 1) := by decide +kernel
theorem d_Model_dutyRule_213 : decode u_Model_dutyRule.2.2.1 213 = .ok (.ireturn, 1) := by decide +kernel
theorem d_Model_dutyRule_214 : decode u_Model_dutyRule.2.2.1 214 = .ok (.iinc 1 1, 3) := by decide +kernel
theorem d_Model_dutyRule_217 : decode u_Model_dutyRule.2.2.1 217 = .ok (.goto (-71), 3) := by decide +kernel
theorem d_Model_dutyRule_220 : decode u_Model_dutyRule.2.2.1 220 = .ok (.iconst 1, 1) := by decide +kernel
theorem d_Model_dutyRule_221 : decode u_Model_dutyRule.2.2.1 221 = .ok (.istore_n 1, 1) := by decide +kernel
theorem d_Model_dutyRule_222 : decode u_Model_dutyRule.2.2.1 222 = .ok (.iload_n 1, 1) := by decide +kernel
theorem d_Model_dutyRule_223 : decode u_Model_dutyRule.2.2.1 223 = .ok (.aload_n 0, 1) := by decide +kernel
theorem d_Model_dutyRule_224 : decode u_Model_dutyRule.2.2.1 224 = .ok (.getfield 200, 3) := by decide +kernel
theorem d_Model_dutyRule_227 : decode u_Model_dutyRule.2.2.1 227 = .ok (.if_icmp .ge 66, 3) := by decide +kernel
theorem d_Model_dutyRule_230 : decode u_Model_dutyRule.2.2.1 230 = .ok (.aload_n 0, 1) := by decide +kernel
theorem d_Model_dutyRule_231 : decode u_Model_dutyRule.2.2.1 231 = .ok (.getfield 78, 3) := by decide +kernel
theorem d_Model_dutyRule_234 : decode u_Model_dutyRule.2.2.1 234 = .ok (.bipush 9, 2) := by decide +kernel
theorem d_Model_dutyRule_236 : decode u_Model_dutyRule.2.2.1 236 = .ok (.iaload, 1) := by decide +kernel
theorem d_Model_dutyRule_237 : decode u_Model_dutyRule.2.2.1 237 = .ok (.iconst 1, 1) := by decide +kernel
theorem d_Model_dutyRule_238 : decode u_Model_dutyRule.2.2.1 238 = .ok (.if_icmp .ne 55, 3) := by decide +kernel
theorem d_Model_dutyRule_241 : decode u_Model_dutyRule.2.2.1 241 = .ok (.aload_n 0, 1) := by decide +kernel
theorem d_Model_dutyRule_242 : decode u_Model_dutyRule.2.2.1 242 = .ok (.aload_n 0, 1) := by decide +kernel
theorem d_Model_dutyRule_243 : decode u_Model_dutyRule.2.2.1 243 = .ok (.getfield 33, 3) := by decide +kernel
theorem d_Model_dutyRule_246 : decode u_Model_dutyRule.2.2.1 246 = .ok (.aload_n 0, 1) := by decide +kernel
theorem d_Model_dutyRule_247 : decode u_Model_dutyRule.2.2.1 247 = .ok (.getfield 87, 3) := by decide +kernel
theorem d_Model_dutyRule_250 : decode u_Model_dutyRule.2.2.1 250 = .ok (.aload_n 0, 1) := by decide +kernel
theorem d_Model_dutyRule_251 : decode u_Model_dutyRule.2.2.1 251 = .ok (.getfield 93, 3) := by decide +kernel
theorem d_Model_dutyRule_254 : decode u_Model_dutyRule.2.2.1 254 = .ok (.iload_n 1, 1) := by decide +kernel
theorem d_Model_dutyRule_255 : decode u_Model_dutyRule.2.2.1 255 = .ok (.iconst 1, 1) := by decide +kernel
theorem d_Model_dutyRule_256 : decode u_Model_dutyRule.2.2.1 256 = .ok (.isub, 1) := by decide +kernel
theorem d_Model_dutyRule_257 : decode u_Model_dutyRule.2.2.1 257 = .ok (.iaload, 1) := by decide +kernel
theorem d_Model_dutyRule_258 : decode u_Model_dutyRule.2.2.1 258 = .ok (.iaload, 1) := by decide +kernel
theorem d_Model_dutyRule_259 : decode u_Model_dutyRule.2.2.1 259 = .ok (.iaload, 1) := by decide +kernel
theorem d_Model_dutyRule_260 : decode u_Model_dutyRule.2.2.1 260 = .ok (.aload_n 0, 1) := by decide +kernel
theorem d_Model_dutyRule_261 : decode u_Model_dutyRule.2.2.1 261 = .ok (.getfield 99, 3) := by decide +kernel
theorem d_Model_dutyRule_264 : decode u_Model_dutyRule.2.2.1 264 = .ok (.iload_n 1, 1) := by decide +kernel
theorem d_Model_dutyRule_265 : decode u_Model_dutyRule.2.2.1 265 = .ok (.iconst 1, 1) := by decide +kernel
theorem d_Model_dutyRule_266 : decode u_Model_dutyRule.2.2.1 266 = .ok (.isub, 1) := by decide +kernel
theorem d_Model_dutyRule_267 : decode u_Model_dutyRule.2.2.1 267 = .ok (.iaload, 1) := by decide +kernel
theorem d_Model_dutyRule_268 : decode u_Model_dutyRule.2.2.1 268 = .ok (.invokevirtual 216, 3) := by decide +kernel
theorem d_Model_dutyRule_271 : decode u_Model_dutyRule.2.2.1 271 = .ok (.sipush 480, 3) := by decide +kernel
theorem d_Model_dutyRule_274 : decode u_Model_dutyRule.2.2.1 274 = .ok (.iadd, 1) := by decide +kernel
theorem d_Model_dutyRule_275 : decode u_Model_dutyRule.2.2.1 275 = .ok (.aload_n 0, 1) := by decide +kernel
theorem d_Model_dutyRule_276 : decode u_Model_dutyRule.2.2.1 276 = .ok (.getfield 96, 3) := by decide +kernel
theorem d_Model_dutyRule_279 : decode u_Model_dutyRule.2.2.1 279 = .ok (.iload_n 1, 1) := by decide +kernel
theorem d_Model_dutyRule_280 : decode u_Model_dutyRule.2.2.1 280 = .ok (.iaload, 1) := by decide +kernel
theorem d_Model_dutyRule_281 : decode u_Model_dutyRule.2.2.1 281 = .ok (.if_icmp .le 6, 3) := by decide +kernel
theorem d_Model_dutyRule_284 : decode u_Model_dutyRule.2.2.1 284 = .ok (.bipush 6, 2) := by decide +kernel
theorem d_Model_dutyRule_286 : decode u_Model_dutyRule.2.2.1 286 = .ok (.ireturn, 1) := by decide +kernel
theorem d_Model_dutyRule_287 : decode u_Model_dutyRule.2.2.1 287 = .ok (.iinc 1 1, 3) := by decide +kernel
theorem d_Model_dutyRule_290 : decode u_Model_dutyRule.2.2.1 290 = .ok (.goto (-68), 3) := by decide +kernel
theorem d_Model_dutyRule_293 : decode u_Model_dutyRule.2.2.1 293 = .ok (.iconst 0, 1) := by decide +kernel
theorem d_Model_dutyRule_294 : decode u_Model_dutyRule.2.2.1 294 = .ok (.ireturn, 1) := by decide +kernel
theorem w_Model_dutyRule : am_code y_Model_dutyRule u_Model_dutyRule ∈ am_ws := am_mem (List.mem_of_getElem? (i := 1259) (by decide +kernel)) rfl
def a_Model_dutyRule_0 (rc : Nat → Nat → Int32 → Int32 → Int32 → Nat → Int32 → am_M → Option (Int32 × am_M)) (r0 : Nat) (x1 : Int32) (s0 : Int32) (s1 : Int32) (sr2 : Nat) (s3 : Int32) (M : am_M) : Option (Int32 × am_M) := (q_gti M r0 10 29).bind (fun t4 => if t4 ≤ x1 then (rc 1 r0 (0 : Int32) 0 0 0 0 M) else ((q_gtr M r0 10 31).bind (fun t11 => (q_ldi M t11 x1).bind (fun t15 => (q_gtr M r0 10 30).bind (fun t17 => (q_ldi M t17 x1).bind (fun t21 => (q_gtr M r0 10 23).bind (fun t26 => (q_ldi M t26 (5 : Int32)).bind (fun t30 => if ((t15 - t21) + (1 : Int32)) ≤ t30 then (rc 0 r0 (x1 + (1 : Int32)) 0 0 0 0 M) else (some ((3 : Int32), M))))))))))
def a_Model_dutyRule_1 (rc : Nat → Nat → Int32 → Int32 → Int32 → Nat → Int32 → am_M → Option (Int32 × am_M)) (r0 : Nat) (x1 : Int32) (s0 : Int32) (s1 : Int32) (sr2 : Nat) (s3 : Int32) (M : am_M) : Option (Int32 × am_M) := (q_gti M r0 10 29).bind (fun t46 => if t46 ≤ x1 then (rc 3 r0 (1 : Int32) 0 0 0 0 M) else ((q_gtr M r0 10 7).bind (fun t54 => (q_gtr M r0 10 27).bind (fun t58 => (q_gtr M r0 10 30).bind (fun t62 => (q_ldi M t62 x1).bind (fun t66 => (q_ldi M t58 t66).bind (fun t67 => (q_ldi M t54 t67).bind (fun t68 => (q_gtr M r0 10 32).bind (fun t70 => (q_ldi M t70 x1).bind (fun t74 => (q_ob M r0 10).bind (fun o75 => (f_Model_clock M r0 t68 t74).bind (fun t75 => (q_div t75 (360 : Int32)).bind (fun t81 => (q_gtr M r0 10 31).bind (fun t84 => (q_ldi M t84 x1).bind (fun t88 => (q_gtr M r0 10 30).bind (fun t90 => (q_ldi M t90 x1).bind (fun t94 => (q_gtr M r0 10 33).bind (fun t100 => (q_ldi M t100 x1).bind (fun t104 => (q_gtr M r0 10 32).bind (fun t106 => (q_ldi M t106 x1).bind (fun t110 => (q_gtr M r0 10 24).bind (fun t113 => if ((t88 - t94) + (1 : Int32)) ≤ (4 : Int32) then (rc 2 r0 x1 (((t88 - t94) + (1 : Int32)) - (1 : Int32)) ((4 : Int32) * t81) t113 (t104 - t110) M) else (rc 2 r0 x1 (3 : Int32) ((4 : Int32) * t81) t113 (t104 - t110) M)))))))))))))))))))))))
def a_Model_dutyRule_2 (rc : Nat → Nat → Int32 → Int32 → Int32 → Nat → Int32 → am_M → Option (Int32 × am_M)) (r0 : Nat) (x1 : Int32) (s0 : Int32) (s1 : Int32) (sr2 : Nat) (s3 : Int32) (M : am_M) : Option (Int32 × am_M) := (q_ldi M sr2 (s1 + s0)).bind (fun t132 => if s3 ≤ t132 then (rc 1 r0 (x1 + (1 : Int32)) 0 0 0 0 M) else (some ((4 : Int32), M)))
def a_Model_dutyRule_3 (rc : Nat → Nat → Int32 → Int32 → Int32 → Nat → Int32 → am_M → Option (Int32 × am_M)) (r0 : Nat) (x1 : Int32) (s0 : Int32) (s1 : Int32) (sr2 : Nat) (s3 : Int32) (M : am_M) : Option (Int32 × am_M) := (q_gti M r0 10 29).bind (fun t148 => if t148 ≤ x1 then (rc 5 r0 (1 : Int32) 0 0 0 0 M) else ((q_gtr M r0 10 33).bind (fun t155 => (q_ldi M t155 (x1 - (1 : Int32))).bind (fun t161 => (q_gtr M r0 10 32).bind (fun t163 => (q_ldi M t163 (x1 - (1 : Int32))).bind (fun t169 => (q_gtr M r0 10 23).bind (fun t174 => (q_ldi M t174 (4 : Int32)).bind (fun t178 => if (t161 - t169) ≤ t178 then ((q_gtr M r0 10 23).bind (fun t187 => (q_ldi M t187 (4 : Int32)).bind (fun t191 => rc 4 r0 x1 t191 0 0 0 M))) else (rc 4 r0 x1 (t161 - t169) 0 0 0 M)))))))))
def a_Model_dutyRule_4 (rc : Nat → Nat → Int32 → Int32 → Int32 → Nat → Int32 → am_M → Option (Int32 × am_M)) (r0 : Nat) (x1 : Int32) (s0 : Int32) (s1 : Int32) (sr2 : Nat) (s3 : Int32) (M : am_M) : Option (Int32 × am_M) := (q_gtr M r0 10 32).bind (fun t194 => (q_ldi M t194 x1).bind (fun t198 => (q_gtr M r0 10 33).bind (fun t200 => (q_ldi M t200 (x1 - (1 : Int32))).bind (fun t206 => if (t206 + s0) ≤ t198 then (rc 3 r0 (x1 + (1 : Int32)) 0 0 0 0 M) else (some ((5 : Int32), M))))))
def a_Model_dutyRule_5 (rc : Nat → Nat → Int32 → Int32 → Int32 → Nat → Int32 → am_M → Option (Int32 × am_M)) (r0 : Nat) (x1 : Int32) (s0 : Int32) (s1 : Int32) (sr2 : Nat) (s3 : Int32) (M : am_M) : Option (Int32 × am_M) := (q_gti M r0 10 29).bind (fun t224 => if t224 ≤ x1 then (some ((0 : Int32), M)) else ((q_gtr M r0 10 23).bind (fun t231 => (q_ldi M t231 (9 : Int32)).bind (fun t236 => if t236 = (1 : Int32) then ((q_gtr M r0 10 8).bind (fun t243 => (q_gtr M r0 10 27).bind (fun t247 => (q_gtr M r0 10 31).bind (fun t251 => (q_ldi M t251 (x1 - (1 : Int32))).bind (fun t257 => (q_ldi M t247 t257).bind (fun t258 => (q_ldi M t243 t258).bind (fun t259 => (q_gtr M r0 10 33).bind (fun t261 => (q_ldi M t261 (x1 - (1 : Int32))).bind (fun t267 => (q_ob M r0 10).bind (fun o268 => (f_Model_nextRest M r0 t259 t267).bind (fun p268 => (q_gtr p268.2 r0 10 32).bind (fun t276 => (q_ldi p268.2 t276 x1).bind (fun t280 => if (p268.1 + (480 : Int32)) ≤ t280 then (rc 5 r0 (x1 + (1 : Int32)) 0 0 0 0 p268.2) else (some ((6 : Int32), p268.2))))))))))))))) else (some ((0 : Int32), M))))))
def g_Model_dutyRule : Nat → Nat → Nat → Int32 → Int32 → Int32 → Nat → Int32 → am_M → Option (Int32 × am_M)
  | 0, _, _, _, _, _, _, _, _ => none
  | F + 1, 0, r0, x1, s0, s1, sr2, s3, M => a_Model_dutyRule_0 (g_Model_dutyRule F) r0 x1 s0 s1 sr2 s3 M
  | F + 1, 1, r0, x1, s0, s1, sr2, s3, M => a_Model_dutyRule_1 (g_Model_dutyRule F) r0 x1 s0 s1 sr2 s3 M
  | F + 1, 2, r0, x1, s0, s1, sr2, s3, M => a_Model_dutyRule_2 (g_Model_dutyRule F) r0 x1 s0 s1 sr2 s3 M
  | F + 1, 3, r0, x1, s0, s1, sr2, s3, M => a_Model_dutyRule_3 (g_Model_dutyRule F) r0 x1 s0 s1 sr2 s3 M
  | F + 1, 4, r0, x1, s0, s1, sr2, s3, M => a_Model_dutyRule_4 (g_Model_dutyRule F) r0 x1 s0 s1 sr2 s3 M
  | F + 1, 5, r0, x1, s0, s1, sr2, s3, M => a_Model_dutyRule_5 (g_Model_dutyRule F) r0 x1 s0 s1 sr2 s3 M
  | _ + 1, _ + 6, _, _, _, _, _, _, _ => none
def e_Model_dutyRule (rc : Nat → Nat → Int32 → Int32 → Int32 → Nat → Int32 → am_M → Option (Int32 × am_M)) (M : am_M) (a0 : Nat) : Option (Int32 × am_M) := rc 0 a0 (0 : Int32) 0 0 0 0 M
def f_Model_dutyRule (M : am_M) (a0 : Nat) : Option (Int32 × am_M) := e_Model_dutyRule (g_Model_dutyRule 1000000000) M a0
theorem fl_Model_30 : am_fl "CrewOfficeModel" 30 10 7 := ⟨by decide, by decide, List.mem_of_getElem? (i := 1013) (by decide +kernel)⟩
theorem fl_Model_33 : am_fl "CrewOfficeModel" 33 10 8 := ⟨by decide, by decide, List.mem_of_getElem? (i := 1014) (by decide +kernel)⟩
theorem fl_Model_81 : am_fl "CrewOfficeModel" 81 10 24 := ⟨by decide, by decide, List.mem_of_getElem? (i := 1030) (by decide +kernel)⟩
theorem kV_Model_216 : am_kV "CrewOfficeModel" 216 10 y_Model_nextRest u_Model_nextRest 2 := ⟨List.mem_of_getElem? (i := 1268) (by decide +kernel), ⟨List.mem_of_getElem? (i := 1270) (by decide +kernel), List.mem_of_getElem? (i := 38) (by decide +kernel)⟩, List.mem_of_getElem? (i := 65) (by decide +kernel), w_Model_nextRest, ⟨⟨by decide +kernel, by decide +kernel⟩, by decide +kernel⟩⟩
set_option maxHeartbeats 4000000 in
theorem s_Model_dutyRule_0 {rc : Nat → Nat → Int32 → Int32 → Int32 → Nat → Int32 → am_M → Option (Int32 × am_M)} {res : Int32} {M' : am_M} (ih_0 : ∀ (r0 : Nat) (x1 : Int32) (s0 : Int32) (s1 : Int32) (sr2 : Nat) (s3 : Int32) (M : am_M), rc 0 r0 x1 s0 s1 sr2 s3 M = some (res, M') → AW u_Model_dutyRule R_Model_dutyRule 0 0 2 [(0, .ref r0), (1, .int x1)] [] M (fun r M2 => r = .inl (some (.int res)) ∧ M2 = M')) (ih_1 : ∀ (r0 : Nat) (x1 : Int32) (s0 : Int32) (s1 : Int32) (sr2 : Nat) (s3 : Int32) (M : am_M), rc 1 r0 x1 s0 s1 sr2 s3 M = some (res, M') → AW u_Model_dutyRule R_Model_dutyRule 0 0 44 [(0, .ref r0), (1, .int x1)] [] M (fun r M2 => r = .inl (some (.int res)) ∧ M2 = M')) (ih_2 : ∀ (r0 : Nat) (x1 : Int32) (s0 : Int32) (s1 : Int32) (sr2 : Nat) (s3 : Int32) (M : am_M), rc 2 r0 x1 s0 s1 sr2 s3 M = some (res, M') → AW u_Model_dutyRule R_Model_dutyRule 0 0 131 [(0, .ref r0), (1, .int x1)] [.int s0, .int s1, .ref sr2, .int s3] M (fun r M2 => r = .inl (some (.int res)) ∧ M2 = M')) (ih_3 : ∀ (r0 : Nat) (x1 : Int32) (s0 : Int32) (s1 : Int32) (sr2 : Nat) (s3 : Int32) (M : am_M), rc 3 r0 x1 s0 s1 sr2 s3 M = some (res, M') → AW u_Model_dutyRule R_Model_dutyRule 0 0 146 [(0, .ref r0), (1, .int x1)] [] M (fun r M2 => r = .inl (some (.int res)) ∧ M2 = M')) (ih_4 : ∀ (r0 : Nat) (x1 : Int32) (s0 : Int32) (s1 : Int32) (sr2 : Nat) (s3 : Int32) (M : am_M), rc 4 r0 x1 s0 s1 sr2 s3 M = some (res, M') → AW u_Model_dutyRule R_Model_dutyRule 0 0 192 [(0, .ref r0), (1, .int x1)] [.int s0] M (fun r M2 => r = .inl (some (.int res)) ∧ M2 = M')) (ih_5 : ∀ (r0 : Nat) (x1 : Int32) (s0 : Int32) (s1 : Int32) (sr2 : Nat) (s3 : Int32) (M : am_M), rc 5 r0 x1 s0 s1 sr2 s3 M = some (res, M') → AW u_Model_dutyRule R_Model_dutyRule 0 0 222 [(0, .ref r0), (1, .int x1)] [] M (fun r M2 => r = .inl (some (.int res)) ∧ M2 = M')) : ∀ (r0 : Nat) (x1 : Int32) (s0 : Int32) (s1 : Int32) (sr2 : Nat) (s3 : Int32) (M : am_M), a_Model_dutyRule_0 rc r0 x1 s0 s1 sr2 s3 M = some (res, M') → AW u_Model_dutyRule R_Model_dutyRule 0 0 2 [(0, .ref r0), (1, .int x1)] [] M (fun r M2 => r = .inl (some (.int res)) ∧ M2 = M') := by
  intro r0 x1 s0 s1 sr2 s3 M h
  unfold a_Model_dutyRule_0 at h
  refine aw_iload_n d_Model_dutyRule_2 rfl rfl ?_
  refine aw_aload_n d_Model_dutyRule_3 rfl rfl ?_
  obtain ⟨t4, e_t4, h⟩ := q_bind h
  refine aw_gti d_Model_dutyRule_4 fl_Model_200 (Or.inl rfl) e_t4 ?_
  refine aw_icmp_ge (tgt := 42) d_Model_dutyRule_7 (by decide) (fun hc => ?_) (fun hc => ?_)
  · rw [if_pos hc] at h
    refine aw_iconst (v := 0) d_Model_dutyRule_42 (by decide) ?_
    refine aw_istore_n (ls' := [(1, .int _), (0, .ref _)]) d_Model_dutyRule_43 rfl (Nat.le_of_ble_eq_true rfl) rfl ?_
    exact aw_pick [1, 0] rfl (ih_1 _ _ _ _ _ _ _ h)
  · rw [if_neg hc] at h
    refine aw_aload_n d_Model_dutyRule_10 rfl rfl ?_
    obtain ⟨t11, e_t11, h⟩ := q_bind h
    refine aw_gtr d_Model_dutyRule_11 fl_Model_93 (Or.inr ⟨_, rfl⟩) e_t11 ?_
    refine aw_iload_n d_Model_dutyRule_14 rfl rfl ?_
    obtain ⟨t15, e_t15, h⟩ := q_bind h
    refine aw_ldi d_Model_dutyRule_15 e_t15 ?_
    refine aw_aload_n d_Model_dutyRule_16 rfl rfl ?_
    obtain ⟨t17, e_t17, h⟩ := q_bind h
    refine aw_gtr d_Model_dutyRule_17 fl_Model_90 (Or.inr ⟨_, rfl⟩) e_t17 ?_
    refine aw_iload_n d_Model_dutyRule_20 rfl rfl ?_
    obtain ⟨t21, e_t21, h⟩ := q_bind h
    refine aw_ldi d_Model_dutyRule_21 e_t21 ?_
    refine aw_isub d_Model_dutyRule_22 ?_
    refine aw_iconst (v := 1) d_Model_dutyRule_23 (by decide) ?_
    refine aw_iadd d_Model_dutyRule_24 ?_
    refine aw_aload_n d_Model_dutyRule_25 rfl rfl ?_
    obtain ⟨t26, e_t26, h⟩ := q_bind h
    refine aw_gtr d_Model_dutyRule_26 fl_Model_78 (Or.inr ⟨_, rfl⟩) e_t26 ?_
    refine aw_iconst (v := 5) d_Model_dutyRule_29 (by decide) ?_
    obtain ⟨t30, e_t30, h⟩ := q_bind h
    refine aw_ldi d_Model_dutyRule_30 e_t30 ?_
    refine aw_icmp_le (tgt := 36) d_Model_dutyRule_31 (by decide) (fun hc => ?_) (fun hc => ?_)
    · rw [if_pos hc] at h
      refine aw_iinc (v := (x1 + (1 : Int32))) (ls' := [(1, .int _), (0, .ref _)]) d_Model_dutyRule_36 rfl rfl (Nat.le_of_ble_eq_true rfl) rfl ?_
      refine aw_goto (tgt := 2) d_Model_dutyRule_39 (by decide) ?_
      exact aw_pick [1, 0] rfl (ih_0 _ _ _ _ _ _ _ h)
    · rw [if_neg hc] at h
      refine aw_iconst (v := 3) d_Model_dutyRule_34 (by decide) ?_
      cases h
      exact aw_ireturn d_Model_dutyRule_35 rfl (Nat.le_of_ble_eq_true rfl) (Nat.le_of_ble_eq_true rfl) ⟨rfl, rfl⟩
set_option maxHeartbeats 4000000 in
theorem s_Model_dutyRule_1 {rc : Nat → Nat → Int32 → Int32 → Int32 → Nat → Int32 → am_M → Option (Int32 × am_M)} {res : Int32} {M' : am_M} (ih_0 : ∀ (r0 : Nat) (x1 : Int32) (s0 : Int32) (s1 : Int32) (sr2 : Nat) (s3 : Int32) (M : am_M), rc 0 r0 x1 s0 s1 sr2 s3 M = some (res, M') → AW u_Model_dutyRule R_Model_dutyRule 0 0 2 [(0, .ref r0), (1, .int x1)] [] M (fun r M2 => r = .inl (some (.int res)) ∧ M2 = M')) (ih_1 : ∀ (r0 : Nat) (x1 : Int32) (s0 : Int32) (s1 : Int32) (sr2 : Nat) (s3 : Int32) (M : am_M), rc 1 r0 x1 s0 s1 sr2 s3 M = some (res, M') → AW u_Model_dutyRule R_Model_dutyRule 0 0 44 [(0, .ref r0), (1, .int x1)] [] M (fun r M2 => r = .inl (some (.int res)) ∧ M2 = M')) (ih_2 : ∀ (r0 : Nat) (x1 : Int32) (s0 : Int32) (s1 : Int32) (sr2 : Nat) (s3 : Int32) (M : am_M), rc 2 r0 x1 s0 s1 sr2 s3 M = some (res, M') → AW u_Model_dutyRule R_Model_dutyRule 0 0 131 [(0, .ref r0), (1, .int x1)] [.int s0, .int s1, .ref sr2, .int s3] M (fun r M2 => r = .inl (some (.int res)) ∧ M2 = M')) (ih_3 : ∀ (r0 : Nat) (x1 : Int32) (s0 : Int32) (s1 : Int32) (sr2 : Nat) (s3 : Int32) (M : am_M), rc 3 r0 x1 s0 s1 sr2 s3 M = some (res, M') → AW u_Model_dutyRule R_Model_dutyRule 0 0 146 [(0, .ref r0), (1, .int x1)] [] M (fun r M2 => r = .inl (some (.int res)) ∧ M2 = M')) (ih_4 : ∀ (r0 : Nat) (x1 : Int32) (s0 : Int32) (s1 : Int32) (sr2 : Nat) (s3 : Int32) (M : am_M), rc 4 r0 x1 s0 s1 sr2 s3 M = some (res, M') → AW u_Model_dutyRule R_Model_dutyRule 0 0 192 [(0, .ref r0), (1, .int x1)] [.int s0] M (fun r M2 => r = .inl (some (.int res)) ∧ M2 = M')) (ih_5 : ∀ (r0 : Nat) (x1 : Int32) (s0 : Int32) (s1 : Int32) (sr2 : Nat) (s3 : Int32) (M : am_M), rc 5 r0 x1 s0 s1 sr2 s3 M = some (res, M') → AW u_Model_dutyRule R_Model_dutyRule 0 0 222 [(0, .ref r0), (1, .int x1)] [] M (fun r M2 => r = .inl (some (.int res)) ∧ M2 = M')) : ∀ (r0 : Nat) (x1 : Int32) (s0 : Int32) (s1 : Int32) (sr2 : Nat) (s3 : Int32) (M : am_M), a_Model_dutyRule_1 rc r0 x1 s0 s1 sr2 s3 M = some (res, M') → AW u_Model_dutyRule R_Model_dutyRule 0 0 44 [(0, .ref r0), (1, .int x1)] [] M (fun r M2 => r = .inl (some (.int res)) ∧ M2 = M') := by
  intro r0 x1 s0 s1 sr2 s3 M h
  unfold a_Model_dutyRule_1 at h
  refine aw_iload_n d_Model_dutyRule_44 rfl rfl ?_
  refine aw_aload_n d_Model_dutyRule_45 rfl rfl ?_
  obtain ⟨t46, e_t46, h⟩ := q_bind h
  refine aw_gti d_Model_dutyRule_46 fl_Model_200 (Or.inl rfl) e_t46 ?_
  refine aw_icmp_ge (tgt := 144) d_Model_dutyRule_49 (by decide) (fun hc => ?_) (fun hc => ?_)
  · rw [if_pos hc] at h
    refine aw_iconst (v := 1) d_Model_dutyRule_144 (by decide) ?_
    refine aw_istore_n (ls' := [(1, .int _), (0, .ref _)]) d_Model_dutyRule_145 rfl (Nat.le_of_ble_eq_true rfl) rfl ?_
    exact aw_pick [1, 0] rfl (ih_3 _ _ _ _ _ _ _ h)
  · rw [if_neg hc] at h
    refine aw_aload_n d_Model_dutyRule_52 rfl rfl ?_
    refine aw_aload_n d_Model_dutyRule_53 rfl rfl ?_
    obtain ⟨t54, e_t54, h⟩ := q_bind h
    refine aw_gtr d_Model_dutyRule_54 fl_Model_30 (Or.inr ⟨_, rfl⟩) e_t54 ?_
    refine aw_aload_n d_Model_dutyRule_57 rfl rfl ?_
    obtain ⟨t58, e_t58, h⟩ := q_bind h
    refine aw_gtr d_Model_dutyRule_58 fl_Model_87 (Or.inr ⟨_, rfl⟩) e_t58 ?_
    refine aw_aload_n d_Model_dutyRule_61 rfl rfl ?_
    obtain ⟨t62, e_t62, h⟩ := q_bind h
    refine aw_gtr d_Model_dutyRule_62 fl_Model_90 (Or.inr ⟨_, rfl⟩) e_t62 ?_
    refine aw_iload_n d_Model_dutyRule_65 rfl rfl ?_
    obtain ⟨t66, e_t66, h⟩ := q_bind h
    refine aw_ldi d_Model_dutyRule_66 e_t66 ?_
    obtain ⟨t67, e_t67, h⟩ := q_bind h
    refine aw_ldi d_Model_dutyRule_67 e_t67 ?_
    obtain ⟨t68, e_t68, h⟩ := q_bind h
    refine aw_ldi d_Model_dutyRule_68 e_t68 ?_
    refine aw_aload_n d_Model_dutyRule_69 rfl rfl ?_
    obtain ⟨t70, e_t70, h⟩ := q_bind h
    refine aw_gtr d_Model_dutyRule_70 fl_Model_96 (Or.inr ⟨_, rfl⟩) e_t70 ?_
    refine aw_iload_n d_Model_dutyRule_73 rfl rfl ?_
    obtain ⟨t74, e_t74, h⟩ := q_bind h
    refine aw_ldi d_Model_dutyRule_74 e_t74 ?_
    obtain ⟨o75, e_o75, h⟩ := q_bind h
    obtain ⟨t75, e_t75, h⟩ := q_bind h
    refine aw_cV (v := (some (.int t75))) (As := [.int t68, .int t74]) (rest := []) (st' := [.int t75]) d_Model_dutyRule_75 kV_Model_172 (q_ob_spec e_o75).1 (q_ob_spec e_o75).2 ⟨Nat.le_of_ble_eq_true rfl, Nat.le_of_ble_eq_true rfl, Nat.le_of_ble_eq_true rfl, Nat.le_of_ble_eq_true rfl⟩ rfl rfl (Nat.le_of_ble_eq_true rfl) rfl (mt_Model_clock e_t75) ?_
    refine aw_sipush (v := 360) d_Model_dutyRule_78 (by decide) ?_
    obtain ⟨t81, e_t81, h⟩ := q_bind h
    refine aw_div d_Model_dutyRule_81 e_t81 ?_
    refine aw_istore_n (ls' := [(2, .int _), (0, .ref _), (1, .int _)]) d_Model_dutyRule_82 rfl (Nat.le_of_ble_eq_true rfl) rfl ?_
    refine aw_aload_n d_Model_dutyRule_83 rfl rfl ?_
    obtain ⟨t84, e_t84, h⟩ := q_bind h
    refine aw_gtr d_Model_dutyRule_84 fl_Model_93 (Or.inr ⟨_, rfl⟩) e_t84 ?_
    refine aw_iload_n d_Model_dutyRule_87 rfl rfl ?_
    obtain ⟨t88, e_t88, h⟩ := q_bind h
    refine aw_ldi d_Model_dutyRule_88 e_t88 ?_
    refine aw_aload_n d_Model_dutyRule_89 rfl rfl ?_
    obtain ⟨t90, e_t90, h⟩ := q_bind h
    refine aw_gtr d_Model_dutyRule_90 fl_Model_90 (Or.inr ⟨_, rfl⟩) e_t90 ?_
    refine aw_iload_n d_Model_dutyRule_93 rfl rfl ?_
    obtain ⟨t94, e_t94, h⟩ := q_bind h
    refine aw_ldi d_Model_dutyRule_94 e_t94 ?_
    refine aw_isub d_Model_dutyRule_95 ?_
    refine aw_iconst (v := 1) d_Model_dutyRule_96 (by decide) ?_
    refine aw_iadd d_Model_dutyRule_97 ?_
    refine aw_istore_n (ls' := [(3, .int _), (2, .int _), (0, .ref _), (1, .int _)]) d_Model_dutyRule_98 rfl (Nat.le_of_ble_eq_true rfl) rfl ?_
    refine aw_aload_n d_Model_dutyRule_99 rfl rfl ?_
    obtain ⟨t100, e_t100, h⟩ := q_bind h
    refine aw_gtr d_Model_dutyRule_100 fl_Model_99 (Or.inr ⟨_, rfl⟩) e_t100 ?_
    refine aw_iload_n d_Model_dutyRule_103 rfl rfl ?_
    obtain ⟨t104, e_t104, h⟩ := q_bind h
    refine aw_ldi d_Model_dutyRule_104 e_t104 ?_
    refine aw_aload_n d_Model_dutyRule_105 rfl rfl ?_
    obtain ⟨t106, e_t106, h⟩ := q_bind h
    refine aw_gtr d_Model_dutyRule_106 fl_Model_96 (Or.inr ⟨_, rfl⟩) e_t106 ?_
    refine aw_iload_n d_Model_dutyRule_109 rfl rfl ?_
    obtain ⟨t110, e_t110, h⟩ := q_bind h
    refine aw_ldi d_Model_dutyRule_110 e_t110 ?_
    refine aw_isub d_Model_dutyRule_111 ?_
    refine aw_aload_n d_Model_dutyRule_112 rfl rfl ?_
    obtain ⟨t113, e_t113, h⟩ := q_bind h
    refine aw_gtr d_Model_dutyRule_113 fl_Model_81 (Or.inr ⟨_, rfl⟩) e_t113 ?_
    refine aw_iconst (v := 4) d_Model_dutyRule_116 (by decide) ?_
    refine aw_iload_n d_Model_dutyRule_117 rfl rfl ?_
    refine aw_imul d_Model_dutyRule_118 ?_
    refine aw_iload_n d_Model_dutyRule_119 rfl rfl ?_
    refine aw_iconst (v := 4) d_Model_dutyRule_120 (by decide) ?_
    refine aw_icmp_le (tgt := 128) d_Model_dutyRule_121 (by decide) (fun hc => ?_) (fun hc => ?_)
    · rw [if_pos hc] at h
      refine aw_iload_n d_Model_dutyRule_128 rfl rfl ?_
      refine aw_iconst (v := 1) d_Model_dutyRule_129 (by decide) ?_
      refine aw_isub d_Model_dutyRule_130 ?_
      exact aw_pick [2, 3] rfl (ih_2 _ _ _ _ _ _ _ h)
    · rw [if_neg hc] at h
      refine aw_iconst (v := 3) d_Model_dutyRule_124 (by decide) ?_
      refine aw_goto (tgt := 131) d_Model_dutyRule_125 (by decide) ?_
      exact aw_pick [2, 3] rfl (ih_2 _ _ _ _ _ _ _ h)
set_option maxHeartbeats 4000000 in
theorem s_Model_dutyRule_2 {rc : Nat → Nat → Int32 → Int32 → Int32 → Nat → Int32 → am_M → Option (Int32 × am_M)} {res : Int32} {M' : am_M} (ih_0 : ∀ (r0 : Nat) (x1 : Int32) (s0 : Int32) (s1 : Int32) (sr2 : Nat) (s3 : Int32) (M : am_M), rc 0 r0 x1 s0 s1 sr2 s3 M = some (res, M') → AW u_Model_dutyRule R_Model_dutyRule 0 0 2 [(0, .ref r0), (1, .int x1)] [] M (fun r M2 => r = .inl (some (.int res)) ∧ M2 = M')) (ih_1 : ∀ (r0 : Nat) (x1 : Int32) (s0 : Int32) (s1 : Int32) (sr2 : Nat) (s3 : Int32) (M : am_M), rc 1 r0 x1 s0 s1 sr2 s3 M = some (res, M') → AW u_Model_dutyRule R_Model_dutyRule 0 0 44 [(0, .ref r0), (1, .int x1)] [] M (fun r M2 => r = .inl (some (.int res)) ∧ M2 = M')) (ih_2 : ∀ (r0 : Nat) (x1 : Int32) (s0 : Int32) (s1 : Int32) (sr2 : Nat) (s3 : Int32) (M : am_M), rc 2 r0 x1 s0 s1 sr2 s3 M = some (res, M') → AW u_Model_dutyRule R_Model_dutyRule 0 0 131 [(0, .ref r0), (1, .int x1)] [.int s0, .int s1, .ref sr2, .int s3] M (fun r M2 => r = .inl (some (.int res)) ∧ M2 = M')) (ih_3 : ∀ (r0 : Nat) (x1 : Int32) (s0 : Int32) (s1 : Int32) (sr2 : Nat) (s3 : Int32) (M : am_M), rc 3 r0 x1 s0 s1 sr2 s3 M = some (res, M') → AW u_Model_dutyRule R_Model_dutyRule 0 0 146 [(0, .ref r0), (1, .int x1)] [] M (fun r M2 => r = .inl (some (.int res)) ∧ M2 = M')) (ih_4 : ∀ (r0 : Nat) (x1 : Int32) (s0 : Int32) (s1 : Int32) (sr2 : Nat) (s3 : Int32) (M : am_M), rc 4 r0 x1 s0 s1 sr2 s3 M = some (res, M') → AW u_Model_dutyRule R_Model_dutyRule 0 0 192 [(0, .ref r0), (1, .int x1)] [.int s0] M (fun r M2 => r = .inl (some (.int res)) ∧ M2 = M')) (ih_5 : ∀ (r0 : Nat) (x1 : Int32) (s0 : Int32) (s1 : Int32) (sr2 : Nat) (s3 : Int32) (M : am_M), rc 5 r0 x1 s0 s1 sr2 s3 M = some (res, M') → AW u_Model_dutyRule R_Model_dutyRule 0 0 222 [(0, .ref r0), (1, .int x1)] [] M (fun r M2 => r = .inl (some (.int res)) ∧ M2 = M')) : ∀ (r0 : Nat) (x1 : Int32) (s0 : Int32) (s1 : Int32) (sr2 : Nat) (s3 : Int32) (M : am_M), a_Model_dutyRule_2 rc r0 x1 s0 s1 sr2 s3 M = some (res, M') → AW u_Model_dutyRule R_Model_dutyRule 0 0 131 [(0, .ref r0), (1, .int x1)] [.int s0, .int s1, .ref sr2, .int s3] M (fun r M2 => r = .inl (some (.int res)) ∧ M2 = M') := by
  intro r0 x1 s0 s1 sr2 s3 M h
  unfold a_Model_dutyRule_2 at h
  refine aw_iadd d_Model_dutyRule_131 ?_
  obtain ⟨t132, e_t132, h⟩ := q_bind h
  refine aw_ldi d_Model_dutyRule_132 e_t132 ?_
  refine aw_icmp_le (tgt := 138) d_Model_dutyRule_133 (by decide) (fun hc => ?_) (fun hc => ?_)
  · rw [if_pos hc] at h
    refine aw_iinc (v := (x1 + (1 : Int32))) (ls' := [(1, .int _), (0, .ref _)]) d_Model_dutyRule_138 rfl rfl (Nat.le_of_ble_eq_true rfl) rfl ?_
    refine aw_goto (tgt := 44) d_Model_dutyRule_141 (by decide) ?_
    exact aw_pick [1, 0] rfl (ih_1 _ _ _ _ _ _ _ h)
  · rw [if_neg hc] at h
    refine aw_iconst (v := 4) d_Model_dutyRule_136 (by decide) ?_
    cases h
    exact aw_ireturn d_Model_dutyRule_137 rfl (Nat.le_of_ble_eq_true rfl) (Nat.le_of_ble_eq_true rfl) ⟨rfl, rfl⟩
set_option maxHeartbeats 4000000 in
theorem s_Model_dutyRule_3 {rc : Nat → Nat → Int32 → Int32 → Int32 → Nat → Int32 → am_M → Option (Int32 × am_M)} {res : Int32} {M' : am_M} (ih_0 : ∀ (r0 : Nat) (x1 : Int32) (s0 : Int32) (s1 : Int32) (sr2 : Nat) (s3 : Int32) (M : am_M), rc 0 r0 x1 s0 s1 sr2 s3 M = some (res, M') → AW u_Model_dutyRule R_Model_dutyRule 0 0 2 [(0, .ref r0), (1, .int x1)] [] M (fun r M2 => r = .inl (some (.int res)) ∧ M2 = M')) (ih_1 : ∀ (r0 : Nat) (x1 : Int32) (s0 : Int32) (s1 : Int32) (sr2 : Nat) (s3 : Int32) (M : am_M), rc 1 r0 x1 s0 s1 sr2 s3 M = some (res, M') → AW u_Model_dutyRule R_Model_dutyRule 0 0 44 [(0, .ref r0), (1, .int x1)] [] M (fun r M2 => r = .inl (some (.int res)) ∧ M2 = M')) (ih_2 : ∀ (r0 : Nat) (x1 : Int32) (s0 : Int32) (s1 : Int32) (sr2 : Nat) (s3 : Int32) (M : am_M), rc 2 r0 x1 s0 s1 sr2 s3 M = some (res, M') → AW u_Model_dutyRule R_Model_dutyRule 0 0 131 [(0, .ref r0), (1, .int x1)] [.int s0, .int s1, .ref sr2, .int s3] M (fun r M2 => r = .inl (some (.int res)) ∧ M2 = M')) (ih_3 : ∀ (r0 : Nat) (x1 : Int32) (s0 : Int32) (s1 : Int32) (sr2 : Nat) (s3 : Int32) (M : am_M), rc 3 r0 x1 s0 s1 sr2 s3 M = some (res, M') → AW u_Model_dutyRule R_Model_dutyRule 0 0 146 [(0, .ref r0), (1, .int x1)] [] M (fun r M2 => r = .inl (some (.int res)) ∧ M2 = M')) (ih_4 : ∀ (r0 : Nat) (x1 : Int32) (s0 : Int32) (s1 : Int32) (sr2 : Nat) (s3 : Int32) (M : am_M), rc 4 r0 x1 s0 s1 sr2 s3 M = some (res, M') → AW u_Model_dutyRule R_Model_dutyRule 0 0 192 [(0, .ref r0), (1, .int x1)] [.int s0] M (fun r M2 => r = .inl (some (.int res)) ∧ M2 = M')) (ih_5 : ∀ (r0 : Nat) (x1 : Int32) (s0 : Int32) (s1 : Int32) (sr2 : Nat) (s3 : Int32) (M : am_M), rc 5 r0 x1 s0 s1 sr2 s3 M = some (res, M') → AW u_Model_dutyRule R_Model_dutyRule 0 0 222 [(0, .ref r0), (1, .int x1)] [] M (fun r M2 => r = .inl (some (.int res)) ∧ M2 = M')) : ∀ (r0 : Nat) (x1 : Int32) (s0 : Int32) (s1 : Int32) (sr2 : Nat) (s3 : Int32) (M : am_M), a_Model_dutyRule_3 rc r0 x1 s0 s1 sr2 s3 M = some (res, M') → AW u_Model_dutyRule R_Model_dutyRule 0 0 146 [(0, .ref r0), (1, .int x1)] [] M (fun r M2 => r = .inl (some (.int res)) ∧ M2 = M') := by
  intro r0 x1 s0 s1 sr2 s3 M h
  unfold a_Model_dutyRule_3 at h
  refine aw_iload_n d_Model_dutyRule_146 rfl rfl ?_
  refine aw_aload_n d_Model_dutyRule_147 rfl rfl ?_
  obtain ⟨t148, e_t148, h⟩ := q_bind h
  refine aw_gti d_Model_dutyRule_148 fl_Model_200 (Or.inl rfl) e_t148 ?_
  refine aw_icmp_ge (tgt := 220) d_Model_dutyRule_151 (by decide) (fun hc => ?_) (fun hc => ?_)
  · rw [if_pos hc] at h
    refine aw_iconst (v := 1) d_Model_dutyRule_220 (by decide) ?_
    refine aw_istore_n (ls' := [(1, .int _), (0, .ref _)]) d_Model_dutyRule_221 rfl (Nat.le_of_ble_eq_true rfl) rfl ?_
    exact aw_pick [1, 0] rfl (ih_5 _ _ _ _ _ _ _ h)
  · rw [if_neg hc] at h
    refine aw_aload_n d_Model_dutyRule_154 rfl rfl ?_
    obtain ⟨t155, e_t155, h⟩ := q_bind h
    refine aw_gtr d_Model_dutyRule_155 fl_Model_99 (Or.inr ⟨_, rfl⟩) e_t155 ?_
    refine aw_iload_n d_Model_dutyRule_158 rfl rfl ?_
    refine aw_iconst (v := 1) d_Model_dutyRule_159 (by decide) ?_
    refine aw_isub d_Model_dutyRule_160 ?_
    obtain ⟨t161, e_t161, h⟩ := q_bind h
    refine aw_ldi d_Model_dutyRule_161 e_t161 ?_
    refine aw_aload_n d_Model_dutyRule_162 rfl rfl ?_
    obtain ⟨t163, e_t163, h⟩ := q_bind h
    refine aw_gtr d_Model_dutyRule_163 fl_Model_96 (Or.inr ⟨_, rfl⟩) e_t163 ?_
    refine aw_iload_n d_Model_dutyRule_166 rfl rfl ?_
    refine aw_iconst (v := 1) d_Model_dutyRule_167 (by decide) ?_
    refine aw_isub d_Model_dutyRule_168 ?_
    obtain ⟨t169, e_t169, h⟩ := q_bind h
    refine aw_ldi d_Model_dutyRule_169 e_t169 ?_
    refine aw_isub d_Model_dutyRule_170 ?_
    refine aw_istore_n (ls' := [(2, .int _), (0, .ref _), (1, .int _)]) d_Model_dutyRule_171 rfl (Nat.le_of_ble_eq_true rfl) rfl ?_
    refine aw_iload_n d_Model_dutyRule_172 rfl rfl ?_
    refine aw_aload_n d_Model_dutyRule_173 rfl rfl ?_
    obtain ⟨t174, e_t174, h⟩ := q_bind h
    refine aw_gtr d_Model_dutyRule_174 fl_Model_78 (Or.inr ⟨_, rfl⟩) e_t174 ?_
    refine aw_iconst (v := 4) d_Model_dutyRule_177 (by decide) ?_
    obtain ⟨t178, e_t178, h⟩ := q_bind h
    refine aw_ldi d_Model_dutyRule_178 e_t178 ?_
    refine aw_icmp_le (tgt := 186) d_Model_dutyRule_179 (by decide) (fun hc => ?_) (fun hc => ?_)
    · rw [if_pos hc] at h
      refine aw_aload_n d_Model_dutyRule_186 rfl rfl ?_
      obtain ⟨t187, e_t187, h⟩ := q_bind h
      refine aw_gtr d_Model_dutyRule_187 fl_Model_78 (Or.inr ⟨_, rfl⟩) e_t187 ?_
      refine aw_iconst (v := 4) d_Model_dutyRule_190 (by decide) ?_
      obtain ⟨t191, e_t191, h⟩ := q_bind h
      refine aw_ldi d_Model_dutyRule_191 e_t191 ?_
      exact aw_pick [1, 2] rfl (ih_4 _ _ _ _ _ _ _ h)
    · rw [if_neg hc] at h
      refine aw_iload_n d_Model_dutyRule_182 rfl rfl ?_
      refine aw_goto (tgt := 192) d_Model_dutyRule_183 (by decide) ?_
      exact aw_pick [1, 2] rfl (ih_4 _ _ _ _ _ _ _ h)
set_option maxHeartbeats 4000000 in
theorem s_Model_dutyRule_4 {rc : Nat → Nat → Int32 → Int32 → Int32 → Nat → Int32 → am_M → Option (Int32 × am_M)} {res : Int32} {M' : am_M} (ih_0 : ∀ (r0 : Nat) (x1 : Int32) (s0 : Int32) (s1 : Int32) (sr2 : Nat) (s3 : Int32) (M : am_M), rc 0 r0 x1 s0 s1 sr2 s3 M = some (res, M') → AW u_Model_dutyRule R_Model_dutyRule 0 0 2 [(0, .ref r0), (1, .int x1)] [] M (fun r M2 => r = .inl (some (.int res)) ∧ M2 = M')) (ih_1 : ∀ (r0 : Nat) (x1 : Int32) (s0 : Int32) (s1 : Int32) (sr2 : Nat) (s3 : Int32) (M : am_M), rc 1 r0 x1 s0 s1 sr2 s3 M = some (res, M') → AW u_Model_dutyRule R_Model_dutyRule 0 0 44 [(0, .ref r0), (1, .int x1)] [] M (fun r M2 => r = .inl (some (.int res)) ∧ M2 = M')) (ih_2 : ∀ (r0 : Nat) (x1 : Int32) (s0 : Int32) (s1 : Int32) (sr2 : Nat) (s3 : Int32) (M : am_M), rc 2 r0 x1 s0 s1 sr2 s3 M = some (res, M') → AW u_Model_dutyRule R_Model_dutyRule 0 0 131 [(0, .ref r0), (1, .int x1)] [.int s0, .int s1, .ref sr2, .int s3] M (fun r M2 => r = .inl (some (.int res)) ∧ M2 = M')) (ih_3 : ∀ (r0 : Nat) (x1 : Int32) (s0 : Int32) (s1 : Int32) (sr2 : Nat) (s3 : Int32) (M : am_M), rc 3 r0 x1 s0 s1 sr2 s3 M = some (res, M') → AW u_Model_dutyRule R_Model_dutyRule 0 0 146 [(0, .ref r0), (1, .int x1)] [] M (fun r M2 => r = .inl (some (.int res)) ∧ M2 = M')) (ih_4 : ∀ (r0 : Nat) (x1 : Int32) (s0 : Int32) (s1 : Int32) (sr2 : Nat) (s3 : Int32) (M : am_M), rc 4 r0 x1 s0 s1 sr2 s3 M = some (res, M') → AW u_Model_dutyRule R_Model_dutyRule 0 0 192 [(0, .ref r0), (1, .int x1)] [.int s0] M (fun r M2 => r = .inl (some (.int res)) ∧ M2 = M')) (ih_5 : ∀ (r0 : Nat) (x1 : Int32) (s0 : Int32) (s1 : Int32) (sr2 : Nat) (s3 : Int32) (M : am_M), rc 5 r0 x1 s0 s1 sr2 s3 M = some (res, M') → AW u_Model_dutyRule R_Model_dutyRule 0 0 222 [(0, .ref r0), (1, .int x1)] [] M (fun r M2 => r = .inl (some (.int res)) ∧ M2 = M')) : ∀ (r0 : Nat) (x1 : Int32) (s0 : Int32) (s1 : Int32) (sr2 : Nat) (s3 : Int32) (M : am_M), a_Model_dutyRule_4 rc r0 x1 s0 s1 sr2 s3 M = some (res, M') → AW u_Model_dutyRule R_Model_dutyRule 0 0 192 [(0, .ref r0), (1, .int x1)] [.int s0] M (fun r M2 => r = .inl (some (.int res)) ∧ M2 = M') := by
  intro r0 x1 s0 s1 sr2 s3 M h
  unfold a_Model_dutyRule_4 at h
  refine aw_istore_n (ls' := [(2, .int _), (0, .ref _), (1, .int _)]) d_Model_dutyRule_192 rfl (Nat.le_of_ble_eq_true rfl) rfl ?_
  refine aw_aload_n d_Model_dutyRule_193 rfl rfl ?_
  obtain ⟨t194, e_t194, h⟩ := q_bind h
  refine aw_gtr d_Model_dutyRule_194 fl_Model_96 (Or.inr ⟨_, rfl⟩) e_t194 ?_
  refine aw_iload_n d_Model_dutyRule_197 rfl rfl ?_
  obtain ⟨t198, e_t198, h⟩ := q_bind h
  refine aw_ldi d_Model_dutyRule_198 e_t198 ?_
  refine aw_aload_n d_Model_dutyRule_199 rfl rfl ?_
  obtain ⟨t200, e_t200, h⟩ := q_bind h
  refine aw_gtr d_Model_dutyRule_200 fl_Model_99 (Or.inr ⟨_, rfl⟩) e_t200 ?_
  refine aw_iload_n d_Model_dutyRule_203 rfl rfl ?_
  refine aw_iconst (v := 1) d_Model_dutyRule_204 (by decide) ?_
  refine aw_isub d_Model_dutyRule_205 ?_
  obtain ⟨t206, e_t206, h⟩ := q_bind h
  refine aw_ldi d_Model_dutyRule_206 e_t206 ?_
  refine aw_iload_n d_Model_dutyRule_207 rfl rfl ?_
  refine aw_iadd d_Model_dutyRule_208 ?_
  refine aw_icmp_ge (tgt := 214) d_Model_dutyRule_209 (by decide) (fun hc => ?_) (fun hc => ?_)
  · rw [if_pos hc] at h
    refine aw_iinc (v := (x1 + (1 : Int32))) (ls' := [(1, .int _), (2, .int _), (0, .ref _)]) d_Model_dutyRule_214 rfl rfl (Nat.le_of_ble_eq_true rfl) rfl ?_
    refine aw_goto (tgt := 146) d_Model_dutyRule_217 (by decide) ?_
    exact aw_pick [2, 0] rfl (ih_3 _ _ _ _ _ _ _ h)
  · rw [if_neg hc] at h
    refine aw_iconst (v := 5) d_Model_dutyRule_212 (by decide) ?_
    cases h
    exact aw_ireturn d_Model_dutyRule_213 rfl (Nat.le_of_ble_eq_true rfl) (Nat.le_of_ble_eq_true rfl) ⟨rfl, rfl⟩
set_option maxHeartbeats 4000000 in
theorem s_Model_dutyRule_5 {rc : Nat → Nat → Int32 → Int32 → Int32 → Nat → Int32 → am_M → Option (Int32 × am_M)} {res : Int32} {M' : am_M} (ih_0 : ∀ (r0 : Nat) (x1 : Int32) (s0 : Int32) (s1 : Int32) (sr2 : Nat) (s3 : Int32) (M : am_M), rc 0 r0 x1 s0 s1 sr2 s3 M = some (res, M') → AW u_Model_dutyRule R_Model_dutyRule 0 0 2 [(0, .ref r0), (1, .int x1)] [] M (fun r M2 => r = .inl (some (.int res)) ∧ M2 = M')) (ih_1 : ∀ (r0 : Nat) (x1 : Int32) (s0 : Int32) (s1 : Int32) (sr2 : Nat) (s3 : Int32) (M : am_M), rc 1 r0 x1 s0 s1 sr2 s3 M = some (res, M') → AW u_Model_dutyRule R_Model_dutyRule 0 0 44 [(0, .ref r0), (1, .int x1)] [] M (fun r M2 => r = .inl (some (.int res)) ∧ M2 = M')) (ih_2 : ∀ (r0 : Nat) (x1 : Int32) (s0 : Int32) (s1 : Int32) (sr2 : Nat) (s3 : Int32) (M : am_M), rc 2 r0 x1 s0 s1 sr2 s3 M = some (res, M') → AW u_Model_dutyRule R_Model_dutyRule 0 0 131 [(0, .ref r0), (1, .int x1)] [.int s0, .int s1, .ref sr2, .int s3] M (fun r M2 => r = .inl (some (.int res)) ∧ M2 = M')) (ih_3 : ∀ (r0 : Nat) (x1 : Int32) (s0 : Int32) (s1 : Int32) (sr2 : Nat) (s3 : Int32) (M : am_M), rc 3 r0 x1 s0 s1 sr2 s3 M = some (res, M') → AW u_Model_dutyRule R_Model_dutyRule 0 0 146 [(0, .ref r0), (1, .int x1)] [] M (fun r M2 => r = .inl (some (.int res)) ∧ M2 = M')) (ih_4 : ∀ (r0 : Nat) (x1 : Int32) (s0 : Int32) (s1 : Int32) (sr2 : Nat) (s3 : Int32) (M : am_M), rc 4 r0 x1 s0 s1 sr2 s3 M = some (res, M') → AW u_Model_dutyRule R_Model_dutyRule 0 0 192 [(0, .ref r0), (1, .int x1)] [.int s0] M (fun r M2 => r = .inl (some (.int res)) ∧ M2 = M')) (ih_5 : ∀ (r0 : Nat) (x1 : Int32) (s0 : Int32) (s1 : Int32) (sr2 : Nat) (s3 : Int32) (M : am_M), rc 5 r0 x1 s0 s1 sr2 s3 M = some (res, M') → AW u_Model_dutyRule R_Model_dutyRule 0 0 222 [(0, .ref r0), (1, .int x1)] [] M (fun r M2 => r = .inl (some (.int res)) ∧ M2 = M')) : ∀ (r0 : Nat) (x1 : Int32) (s0 : Int32) (s1 : Int32) (sr2 : Nat) (s3 : Int32) (M : am_M), a_Model_dutyRule_5 rc r0 x1 s0 s1 sr2 s3 M = some (res, M') → AW u_Model_dutyRule R_Model_dutyRule 0 0 222 [(0, .ref r0), (1, .int x1)] [] M (fun r M2 => r = .inl (some (.int res)) ∧ M2 = M') := by
  intro r0 x1 s0 s1 sr2 s3 M h
  unfold a_Model_dutyRule_5 at h
  refine aw_iload_n d_Model_dutyRule_222 rfl rfl ?_
  refine aw_aload_n d_Model_dutyRule_223 rfl rfl ?_
  obtain ⟨t224, e_t224, h⟩ := q_bind h
  refine aw_gti d_Model_dutyRule_224 fl_Model_200 (Or.inl rfl) e_t224 ?_
  refine aw_icmp_ge (tgt := 293) d_Model_dutyRule_227 (by decide) (fun hc => ?_) (fun hc => ?_)
  · rw [if_pos hc] at h
    refine aw_iconst (v := 0) d_Model_dutyRule_293 (by decide) ?_
    cases h
    exact aw_ireturn d_Model_dutyRule_294 rfl (Nat.le_of_ble_eq_true rfl) (Nat.le_of_ble_eq_true rfl) ⟨rfl, rfl⟩
  · rw [if_neg hc] at h
    refine aw_aload_n d_Model_dutyRule_230 rfl rfl ?_
    obtain ⟨t231, e_t231, h⟩ := q_bind h
    refine aw_gtr d_Model_dutyRule_231 fl_Model_78 (Or.inr ⟨_, rfl⟩) e_t231 ?_
    refine aw_bipush (v := 9) d_Model_dutyRule_234 (by decide) ?_
    obtain ⟨t236, e_t236, h⟩ := q_bind h
    refine aw_ldi d_Model_dutyRule_236 e_t236 ?_
    refine aw_iconst (v := 1) d_Model_dutyRule_237 (by decide) ?_
    refine aw_icmp_ne (tgt := 293) d_Model_dutyRule_238 (by decide) (fun hc => ?_) (fun hc => ?_)
    · rw [if_neg hc] at h
      refine aw_iconst (v := 0) d_Model_dutyRule_293 (by decide) ?_
      cases h
      exact aw_ireturn d_Model_dutyRule_294 rfl (Nat.le_of_ble_eq_true rfl) (Nat.le_of_ble_eq_true rfl) ⟨rfl, rfl⟩
    · rw [if_pos hc] at h
      refine aw_aload_n d_Model_dutyRule_241 rfl rfl ?_
      refine aw_aload_n d_Model_dutyRule_242 rfl rfl ?_
      obtain ⟨t243, e_t243, h⟩ := q_bind h
      refine aw_gtr d_Model_dutyRule_243 fl_Model_33 (Or.inr ⟨_, rfl⟩) e_t243 ?_
      refine aw_aload_n d_Model_dutyRule_246 rfl rfl ?_
      obtain ⟨t247, e_t247, h⟩ := q_bind h
      refine aw_gtr d_Model_dutyRule_247 fl_Model_87 (Or.inr ⟨_, rfl⟩) e_t247 ?_
      refine aw_aload_n d_Model_dutyRule_250 rfl rfl ?_
      obtain ⟨t251, e_t251, h⟩ := q_bind h
      refine aw_gtr d_Model_dutyRule_251 fl_Model_93 (Or.inr ⟨_, rfl⟩) e_t251 ?_
      refine aw_iload_n d_Model_dutyRule_254 rfl rfl ?_
      refine aw_iconst (v := 1) d_Model_dutyRule_255 (by decide) ?_
      refine aw_isub d_Model_dutyRule_256 ?_
      obtain ⟨t257, e_t257, h⟩ := q_bind h
      refine aw_ldi d_Model_dutyRule_257 e_t257 ?_
      obtain ⟨t258, e_t258, h⟩ := q_bind h
      refine aw_ldi d_Model_dutyRule_258 e_t258 ?_
      obtain ⟨t259, e_t259, h⟩ := q_bind h
      refine aw_ldi d_Model_dutyRule_259 e_t259 ?_
      refine aw_aload_n d_Model_dutyRule_260 rfl rfl ?_
      obtain ⟨t261, e_t261, h⟩ := q_bind h
      refine aw_gtr d_Model_dutyRule_261 fl_Model_99 (Or.inr ⟨_, rfl⟩) e_t261 ?_
      refine aw_iload_n d_Model_dutyRule_264 rfl rfl ?_
      refine aw_iconst (v := 1) d_Model_dutyRule_265 (by decide) ?_
      refine aw_isub d_Model_dutyRule_266 ?_
      obtain ⟨t267, e_t267, h⟩ := q_bind h
      refine aw_ldi d_Model_dutyRule_267 e_t267 ?_
      obtain ⟨o268, e_o268, h⟩ := q_bind h
      obtain ⟨⟨t268, M268⟩, e_t268, h⟩ := q_bind h
      dsimp only at h
      refine aw_cV (v := (some (.int t268))) (As := [.int t259, .int t267]) (rest := []) (st' := [.int t268]) d_Model_dutyRule_268 kV_Model_216 (q_ob_spec e_o268).1 (q_ob_spec e_o268).2 ⟨Nat.le_of_ble_eq_true rfl, Nat.le_of_ble_eq_true rfl, Nat.le_of_ble_eq_true rfl, Nat.le_of_ble_eq_true rfl⟩ rfl rfl (Nat.le_of_ble_eq_true rfl) rfl (mt_Model_nextRest e_t268) ?_
      refine aw_sipush (v := 480) d_Model_dutyRule_271 (by decide) ?_
      refine aw_iadd d_Model_dutyRule_274 ?_
      refine aw_aload_n d_Model_dutyRule_275 rfl rfl ?_
      obtain ⟨t276, e_t276, h⟩ := q_bind h
      refine aw_gtr d_Model_dutyRule_276 fl_Model_96 (Or.inr ⟨_, rfl⟩) e_t276 ?_
      refine aw_iload_n d_Model_dutyRule_279 rfl rfl ?_
      obtain ⟨t280, e_t280, h⟩ := q_bind h
      refine aw_ldi d_Model_dutyRule_280 e_t280 ?_
      refine aw_icmp_le (tgt := 287) d_Model_dutyRule_281 (by decide) (fun hc => ?_) (fun hc => ?_)
      · rw [if_pos hc] at h
        refine aw_iinc (v := (x1 + (1 : Int32))) (ls' := [(1, .int _), (0, .ref _)]) d_Model_dutyRule_287 rfl rfl (Nat.le_of_ble_eq_true rfl) rfl ?_
        refine aw_goto (tgt := 222) d_Model_dutyRule_290 (by decide) ?_
        exact aw_pick [1, 0] rfl (ih_5 _ _ _ _ _ _ _ h)
      · rw [if_neg hc] at h
        refine aw_bipush (v := 6) d_Model_dutyRule_284 (by decide) ?_
        cases h
        exact aw_ireturn d_Model_dutyRule_286 rfl (Nat.le_of_ble_eq_true rfl) (Nat.le_of_ble_eq_true rfl) ⟨rfl, rfl⟩
theorem l_Model_dutyRule {res : Int32} {M' : am_M} : ∀ F : Nat, (∀ (r0 : Nat) (x1 : Int32) (s0 : Int32) (s1 : Int32) (sr2 : Nat) (s3 : Int32) (M : am_M), g_Model_dutyRule F 0 r0 x1 s0 s1 sr2 s3 M = some (res, M') → AW u_Model_dutyRule R_Model_dutyRule 0 0 2 [(0, .ref r0), (1, .int x1)] [] M (fun r M2 => r = .inl (some (.int res)) ∧ M2 = M')) ∧ (∀ (r0 : Nat) (x1 : Int32) (s0 : Int32) (s1 : Int32) (sr2 : Nat) (s3 : Int32) (M : am_M), g_Model_dutyRule F 1 r0 x1 s0 s1 sr2 s3 M = some (res, M') → AW u_Model_dutyRule R_Model_dutyRule 0 0 44 [(0, .ref r0), (1, .int x1)] [] M (fun r M2 => r = .inl (some (.int res)) ∧ M2 = M')) ∧ (∀ (r0 : Nat) (x1 : Int32) (s0 : Int32) (s1 : Int32) (sr2 : Nat) (s3 : Int32) (M : am_M), g_Model_dutyRule F 2 r0 x1 s0 s1 sr2 s3 M = some (res, M') → AW u_Model_dutyRule R_Model_dutyRule 0 0 131 [(0, .ref r0), (1, .int x1)] [.int s0, .int s1, .ref sr2, .int s3] M (fun r M2 => r = .inl (some (.int res)) ∧ M2 = M')) ∧ (∀ (r0 : Nat) (x1 : Int32) (s0 : Int32) (s1 : Int32) (sr2 : Nat) (s3 : Int32) (M : am_M), g_Model_dutyRule F 3 r0 x1 s0 s1 sr2 s3 M = some (res, M') → AW u_Model_dutyRule R_Model_dutyRule 0 0 146 [(0, .ref r0), (1, .int x1)] [] M (fun r M2 => r = .inl (some (.int res)) ∧ M2 = M')) ∧ (∀ (r0 : Nat) (x1 : Int32) (s0 : Int32) (s1 : Int32) (sr2 : Nat) (s3 : Int32) (M : am_M), g_Model_dutyRule F 4 r0 x1 s0 s1 sr2 s3 M = some (res, M') → AW u_Model_dutyRule R_Model_dutyRule 0 0 192 [(0, .ref r0), (1, .int x1)] [.int s0] M (fun r M2 => r = .inl (some (.int res)) ∧ M2 = M')) ∧ (∀ (r0 : Nat) (x1 : Int32) (s0 : Int32) (s1 : Int32) (sr2 : Nat) (s3 : Int32) (M : am_M), g_Model_dutyRule F 5 r0 x1 s0 s1 sr2 s3 M = some (res, M') → AW u_Model_dutyRule R_Model_dutyRule 0 0 222 [(0, .ref r0), (1, .int x1)] [] M (fun r M2 => r = .inl (some (.int res)) ∧ M2 = M')) := by
  intro F
  induction F with
  | zero => exact ⟨fun _ _ _ _ _ _ _  h => (by cases h), fun _ _ _ _ _ _ _  h => (by cases h), fun _ _ _ _ _ _ _  h => (by cases h), fun _ _ _ _ _ _ _  h => (by cases h), fun _ _ _ _ _ _ _  h => (by cases h), fun _ _ _ _ _ _ _  h => (by cases h)⟩
  | succ F ih =>
    obtain ⟨ih0, ih1, ih2, ih3, ih4, ih5⟩ := ih
    exact ⟨s_Model_dutyRule_0 ih0 ih1 ih2 ih3 ih4 ih5, s_Model_dutyRule_1 ih0 ih1 ih2 ih3 ih4 ih5, s_Model_dutyRule_2 ih0 ih1 ih2 ih3 ih4 ih5, s_Model_dutyRule_3 ih0 ih1 ih2 ih3 ih4 ih5, s_Model_dutyRule_4 ih0 ih1 ih2 ih3 ih4 ih5, s_Model_dutyRule_5 ih0 ih1 ih2 ih3 ih4 ih5⟩
set_option maxHeartbeats 4000000 in
theorem mt_Model_dutyRule {M : am_M} {a0 : Nat} {res : Int32} {M' : am_M} (h : f_Model_dutyRule M a0 = some (res, M')) : AMet y_Model_dutyRule u_Model_dutyRule R_Model_dutyRule [.ref a0] M (fun r M2 => r = .inl (some (.int res)) ∧ M2 = M') := by
  refine am_met (by decide +kernel) w_Model_dutyRule rfl rfl (Nat.le_of_ble_eq_true rfl) ?_
  show AW u_Model_dutyRule R_Model_dutyRule 0 0 0 [(0, .ref a0)] [] M (fun r M2 => r = .inl (some (.int res)) ∧ M2 = M')
  have ih_0 := (l_Model_dutyRule (res := res) (M' := M') 1000000000).1
  have ih_1 := (l_Model_dutyRule (res := res) (M' := M') 1000000000).2.1
  have ih_2 := (l_Model_dutyRule (res := res) (M' := M') 1000000000).2.2.1
  have ih_3 := (l_Model_dutyRule (res := res) (M' := M') 1000000000).2.2.2.1
  have ih_4 := (l_Model_dutyRule (res := res) (M' := M') 1000000000).2.2.2.2.1
  have ih_5 := (l_Model_dutyRule (res := res) (M' := M') 1000000000).2.2.2.2.2
  unfold f_Model_dutyRule at h
  unfold e_Model_dutyRule at h
  generalize g_Model_dutyRule 1000000000 = rc at h ih_0 ih_1 ih_2 ih_3 ih_4 ih_5
  refine aw_iconst (v := 0) d_Model_dutyRule_0 (by decide) ?_
  refine aw_istore_n (ls' := [(1, .int _), (0, .ref _)]) d_Model_dutyRule_1 rfl (Nat.le_of_ble_eq_true rfl) rfl ?_
  exact aw_pick [1, 0] rfl (ih_0 _ _ _ _ _ _ _ h)
def y_Model_crewRule : MethodName := ⟨"CrewOfficeModel", "crewRule", "(I)I"⟩
def u_Model_crewRule : am_U := ("CrewOfficeModel", "crewRule", prog_12_method_26_code, 3, (some .int), [])
def R_Model_crewRule : Room := { frames := 1, cells := 0, slots := 0, locals := 22 }
theorem d_Model_crewRule_0 : decode u_Model_crewRule.2.2.1 0 = .ok (.iconst 0, 1) := by decide +kernel
theorem d_Model_crewRule_1 : decode u_Model_crewRule.2.2.1 1 = .ok (.istore_n 2, 1) := by decide +kernel
theorem d_Model_crewRule_2 : decode u_Model_crewRule.2.2.1 2 = .ok (.iload_n 2, 1) := by decide +kernel
theorem d_Model_crewRule_3 : decode u_Model_crewRule.2.2.1 3 = .ok (.aload_n 0, 1) := by decide +kernel
theorem d_Model_crewRule_4 : decode u_Model_crewRule.2.2.1 4 = .ok (.getfield 203, 3) := by decide +kernel
theorem d_Model_crewRule_7 : decode u_Model_crewRule.2.2.1 7 = .ok (.if_icmp .ge 35, 3) := by decide +kernel
theorem d_Model_crewRule_10 : decode u_Model_crewRule.2.2.1 10 = .ok (.aload_n 0, 1) := by decide +kernel
theorem d_Model_crewRule_11 : decode u_Model_crewRule.2.2.1 11 = .ok (.getfield 54, 3) := by decide +kernel
theorem d_Model_crewRule_14 : decode u_Model_crewRule.2.2.1 14 = .ok (.iload_n 1, 1) := by decide +kernel
theorem d_Model_crewRule_15 : decode u_Model_crewRule.2.2.1 15 = .ok (.iaload, 1) := by decide +kernel
theorem d_Model_crewRule_16 : decode u_Model_crewRule.2.2.1 16 = .ok (.aload_n 0, 1) := by decide +kernel
theorem d_Model_crewRule_17 : decode u_Model_crewRule.2.2.1 17 = .ok (.getfield 42, 3) := by decide +kernel
theorem d_Model_crewRule_20 : decode u_Model_crewRule.2.2.1 20 = .ok (.aload_n 0, 1) := by decide +kernel
theorem d_Model_crewRule_21 : decode u_Model_crewRule.2.2.1 21 = .ok (.getfield 87, 3) := by decide +kernel
theorem d_Model_crewRule_24 : decode u_Model_crewRule.2.2.1 24 = .ok (.iload_n 2, 1) := by decide +kernel
theorem d_Model_crewRule_25 : decode u_Model_crewRule.2.2.1 25 = .ok (.iaload, 1) := by decide +kernel
theorem d_Model_crewRule_26 : decode u_Model_crewRule.2.2.1 26 = .ok (.iaload, 1) := by decide +kernel
theorem d_Model_crewRule_27 : decode u_Model_crewRule.2.2.1 27 = .ok (.ishr, 1) := by decide +kernel
theorem d_Model_crewRule_28 : decode u_Model_crewRule.2.2.1 28 = .ok (.iconst 1, 1) := by decide +kernel
theorem d_Model_crewRule_29 : decode u_Model_crewRule.2.2.1 29 = .ok (.iand, 1) := by decide +kernel
theorem d_Model_crewRule_30 : decode u_Model_crewRule.2.2.1 30 = .ok (.ifCond .ne 6, 3) := by decide +kernel
theorem d_Model_crewRule_33 : decode u_Model_crewRule.2.2.1 33 = .ok (.bipush 10, 2) := by decide +kernel
theorem d_Model_crewRule_35 : decode u_Model_crewRule.2.2.1 35 = .ok (.ireturn, 1) := by decide +kernel
theorem d_Model_crewRule_36 : decode u_Model_crewRule.2.2.1 36 = .ok (.iinc 2 1, 3) := by decide +kernel
theorem d_Model_crewRule_39 : decode u_Model_crewRule.2.2.1 39 = .ok (.goto (-37), 3) := by decide +kernel
theorem d_Model_crewRule_42 : decode u_Model_crewRule.2.2.1 42 = .ok (.aload_n 0, 1) := by decide +kernel
theorem d_Model_crewRule_43 : decode u_Model_crewRule.2.2.1 43 = .ok (.getfield 60, 3) := by decide +kernel
theorem d_Model_crewRule_46 : decode u_Model_crewRule.2.2.1 46 = .ok (.iload_n 1, 1) := by decide +kernel
theorem d_Model_crewRule_47 : decode u_Model_crewRule.2.2.1 47 = .ok (.iaload, 1) := by decide +kernel
theorem d_Model_crewRule_48 : decode u_Model_crewRule.2.2.1 48 = .ok (.aload_n 0, 1) := by decide +kernel
theorem d_Model_crewRule_49 : decode u_Model_crewRule.2.2.1 49 = .ok (.getfield 63, 3) := by decide +kernel
theorem d_Model_crewRule_52 : decode u_Model_crewRule.2.2.1 52 = .ok (.iload_n 1, 1) := by decide +kernel
theorem d_Model_crewRule_53 : decode u_Model_crewRule.2.2.1 53 = .ok (.iaload, 1) := by decide +kernel
theorem d_Model_crewRule_54 : decode u_Model_crewRule.2.2.1 54 = .ok (.if_icmp .ge 41, 3) := by decide +kernel
theorem d_Model_crewRule_57 : decode u_Model_crewRule.2.2.1 57 = .ok (.aload_n 0, 1) := by decide +kernel
theorem d_Model_crewRule_58 : decode u_Model_crewRule.2.2.1 58 = .ok (.getfield 96, 3) := by decide +kernel
theorem d_Model_crewRule_61 : decode u_Model_crewRule.2.2.1 61 = .ok (.iconst 0, 1) := by decide +kernel
theorem d_Model_crewRule_62 : decode u_Model_crewRule.2.2.1 62 = .ok (.iaload, 1) := by decide +kernel
theorem d_Model_crewRule_63 : decode u_Model_crewRule.2.2.1 63 = .ok (.aload_n 0, 1) := by decide +kernel
theorem d_Model_crewRule_64 : decode u_Model_crewRule.2.2.1 64 = .ok (.getfield 63, 3) := by decide +kernel
theorem d_Model_crewRule_67 : decode u_Model_crewRule.2.2.1 67 = .ok (.iload_n 1, 1) := by decide +kernel
theorem d_Model_crewRule_68 : decode u_Model_crewRule.2.2.1 68 = .ok (.iaload, 1) := by decide +kernel
theorem d_Model_crewRule_69 : decode u_Model_crewRule.2.2.1 69 = .ok (.if_icmp .ge 26, 3) := by decide +kernel
theorem d_Model_crewRule_72 : decode u_Model_crewRule.2.2.1 72 = .ok (.aload_n 0, 1) := by decide +kernel
theorem d_Model_crewRule_73 : decode u_Model_crewRule.2.2.1 73 = .ok (.getfield 60, 3) := by decide +kernel
theorem d_Model_crewRule_76 : decode u_Model_crewRule.2.2.1 76 = .ok (.iload_n 1, 1) := by decide +kernel
theorem d_Model_crewRule_77 : decode u_Model_crewRule.2.2.1 77 = .ok (.iaload, 1) := by decide +kernel
theorem d_Model_crewRule_78 : decode u_Model_crewRule.2.2.1 78 = .ok (.aload_n 0, 1) := by decide +kernel
theorem d_Model_crewRule_79 : decode u_Model_crewRule.2.2.1 79 = .ok (.getfield 99, 3) := by decide +kernel
theorem d_Model_crewRule_82 : decode u_Model_crewRule.2.2.1 82 = .ok (.aload_n 0, 1) := by decide +kernel
theorem d_Model_crewRule_83 : decode u_Model_crewRule.2.2.1 83 = .ok (.getfield 200, 3) := by decide +kernel
theorem d_Model_crewRule_86 : decode u_Model_crewRule.2.2.1 86 = .ok (.iconst 1, 1) := by decide +kernel
theorem d_Model_crewRule_87 : decode u_Model_crewRule.2.2.1 87 = .ok (.isub, 1) := by decide +kernel
theorem d_Model_crewRule_88 : decode u_Model_crewRule.2.2.1 88 = .ok (.iaload, 1) := by decide +kernel
theorem d_Model_crewRule_89 : decode u_Model_crewRule.2.2.1 89 = .ok (.if_icmp .ge 6, 3) := by decide +kernel
theorem d_Model_crewRule_92 : decode u_Model_crewRule.2.2.1 92 = .ok (.bipush 11, 2) := by decide +kernel
theorem d_Model_crewRule_94 : decode u_Model_crewRule.2.2.1 94 = .ok (.ireturn, 1) := by decide +kernel
theorem d_Model_crewRule_95 : decode u_Model_crewRule.2.2.1 95 = .ok (.aload_n 0, 1) := by decide +kernel
theorem d_Model_crewRule_96 : decode u_Model_crewRule.2.2.1 96 = .ok (.getfield 57, 3) := by decide +kernel
theorem d_Model_crewRule_99 : decode u_Model_crewRule.2.2.1 99 = .ok (.iload_n 1, 1) := by decide +kernel
theorem d_Model_crewRule_100 : decode u_Model_crewRule.2.2.1 100 = .ok (.iaload, 1) := by decide +kernel
theorem d_Model_crewRule_101 : decode u_Model_crewRule.2.2.1 101 = .ok (.aload_n 0, 1) := by decide +kernel
theorem d_Model_crewRule_102 : decode u_Model_crewRule.2.2.1 102 = .ok (.invokevirtual 219, 3) := by decide +kernel
theorem d_Model_crewRule_105 : decode u_Model_crewRule.2.2.1 105 = .ok (.iadd, 1) := by decide +kernel
theorem d_Model_crewRule_106 : decode u_Model_crewRule.2.2.1 106 = .ok (.aload_n 0, 1) := by decide +kernel
theorem d_Model_crewRule_107 : decode u_Model_crewRule.2.2.1 107 = .ok (.getfield 78, 3) := by decide +kernel
theorem d_Model_crewRule_110 : decode u_Model_crewRule.2.2.1 110 = .ok (.bipush 10, 2) := by decide +kernel
theorem d_Model_crewRule_112 : decode u_Model_crewRule.2.2.1 112 = .ok (.iaload, 1) := by decide +kernel
theorem d_Model_crewRule_113 : decode u_Model_crewRule.2.2.1 113 = .ok (.if_icmp .le 8, 3) := by decide +kernel
theorem d_Model_crewRule_116 : decode u_Model_crewRule.2.2.1 116 = .ok (.bipush 12, 2) := by decide +kernel
theorem d_Model_crewRule_118 : decode u_Model_crewRule.2.2.1 118 = .ok (.goto 4, 3) := by decide +kernel
theorem d_Model_crewRule_121 : decode u_Model_crewRule.2.2.1 121 = .ok (.iconst 0, 1) := by decide +kernel
theorem d_Model_crewRule_122 : decode u_Model_crewRule.2.2.1 122 = .ok (.ireturn, 1) := by decide +kernel
theorem w_Model_crewRule : am_code y_Model_crewRule u_Model_crewRule ∈ am_ws := am_mem (List.mem_of_getElem? (i := 1280) (by decide +kernel)) rfl
def a_Model_crewRule_0 (rc : Nat → Nat → Int32 → Int32 → am_M → Option (Int32)) (r0 : Nat) (x1 : Int32) (x2 : Int32) (M : am_M) : Option (Int32) := (q_gti M r0 10 28).bind (fun t4 => if t4 ≤ x2 then ((q_gtr M r0 10 17).bind (fun t43 => (q_ldi M t43 x1).bind (fun t47 => (q_gtr M r0 10 18).bind (fun t49 => (q_ldi M t49 x1).bind (fun t53 => if t53 ≤ t47 then (rc 1 r0 x1 0 M) else ((q_gtr M r0 10 32).bind (fun t58 => (q_ldi M t58 (0 : Int32)).bind (fun t62 => (q_gtr M r0 10 18).bind (fun t64 => (q_ldi M t64 x1).bind (fun t68 => if t68 ≤ t62 then (rc 1 r0 x1 0 M) else ((q_gtr M r0 10 17).bind (fun t73 => (q_ldi M t73 x1).bind (fun t77 => (q_gtr M r0 10 33).bind (fun t79 => (q_gti M r0 10 29).bind (fun t83 => (q_ldi M t79 (t83 - (1 : Int32))).bind (fun t88 => if t88 ≤ t77 then (rc 1 r0 x1 0 M) else (some (11 : Int32)))))))))))))))))) else ((q_gtr M r0 10 15).bind (fun t11 => (q_ldi M t11 x1).bind (fun t15 => (q_gtr M r0 10 11).bind (fun t17 => (q_gtr M r0 10 27).bind (fun t21 => (q_ldi M t21 x2).bind (fun t25 => (q_ldi M t17 t25).bind (fun t26 => if ((t15 >>> (t26 &&& 31)) &&& (1 : Int32)) = 0 then (some (10 : Int32)) else (rc 0 r0 x1 (x2 + (1 : Int32)) M)))))))))
def a_Model_crewRule_1 (rc : Nat → Nat → Int32 → Int32 → am_M → Option (Int32)) (r0 : Nat) (x1 : Int32) (x2 : Int32) (M : am_M) : Option (Int32) := (q_gtr M r0 10 16).bind (fun t96 => (q_ldi M t96 x1).bind (fun t100 => (q_ob M r0 10).bind (fun o102 => (f_Model_flying M r0).bind (fun t102 => (q_gtr M r0 10 23).bind (fun t107 => (q_ldi M t107 (10 : Int32)).bind (fun t112 => if (t100 + t102) ≤ t112 then (some (0 : Int32)) else (some (12 : Int32))))))))
def g_Model_crewRule : Nat → Nat → Nat → Int32 → Int32 → am_M → Option (Int32)
  | 0, _, _, _, _, _ => none
  | F + 1, 0, r0, x1, x2, M => a_Model_crewRule_0 (g_Model_crewRule F) r0 x1 x2 M
  | F + 1, 1, r0, x1, x2, M => a_Model_crewRule_1 (g_Model_crewRule F) r0 x1 x2 M
  | _ + 1, _ + 2, _, _, _, _ => none
def e_Model_crewRule (rc : Nat → Nat → Int32 → Int32 → am_M → Option (Int32)) (M : am_M) (a0 : Nat) (a1 : Int32) : Option (Int32) := rc 0 a0 a1 (0 : Int32) M
def f_Model_crewRule (M : am_M) (a0 : Nat) (a1 : Int32) : Option (Int32) := e_Model_crewRule (g_Model_crewRule 1000000000) M a0 a1
theorem fl_Model_42 : am_fl "CrewOfficeModel" 42 10 11 := ⟨by decide, by decide, List.mem_of_getElem? (i := 1017) (by decide +kernel)⟩
theorem fl_Model_54 : am_fl "CrewOfficeModel" 54 10 15 := ⟨by decide, by decide, List.mem_of_getElem? (i := 1021) (by decide +kernel)⟩
theorem fl_Model_57 : am_fl "CrewOfficeModel" 57 10 16 := ⟨by decide, by decide, List.mem_of_getElem? (i := 1022) (by decide +kernel)⟩
theorem fl_Model_60 : am_fl "CrewOfficeModel" 60 10 17 := ⟨by decide, by decide, List.mem_of_getElem? (i := 1023) (by decide +kernel)⟩
theorem fl_Model_63 : am_fl "CrewOfficeModel" 63 10 18 := ⟨by decide, by decide, List.mem_of_getElem? (i := 1024) (by decide +kernel)⟩
theorem kV_Model_219 : am_kV "CrewOfficeModel" 219 10 y_Model_flying u_Model_flying 0 := ⟨List.mem_of_getElem? (i := 1281) (by decide +kernel), ⟨List.mem_of_getElem? (i := 1283) (by decide +kernel), List.mem_of_getElem? (i := 41) (by decide +kernel)⟩, List.mem_of_getElem? (i := 65) (by decide +kernel), w_Model_flying, ⟨⟨by decide +kernel, by decide +kernel⟩, by decide +kernel⟩⟩
set_option maxHeartbeats 4000000 in
theorem s_Model_crewRule_0 {rc : Nat → Nat → Int32 → Int32 → am_M → Option (Int32)} {res : Int32} (ih_0 : ∀ (r0 : Nat) (x1 : Int32) (x2 : Int32) (M : am_M), rc 0 r0 x1 x2 M = some res → AW u_Model_crewRule R_Model_crewRule 0 0 2 [(0, .ref r0), (1, .int x1), (2, .int x2)] [] M (fun r M2 => r = .inl (some (.int res)) ∧ M2 = M)) (ih_1 : ∀ (r0 : Nat) (x1 : Int32) (x2 : Int32) (M : am_M), rc 1 r0 x1 x2 M = some res → AW u_Model_crewRule R_Model_crewRule 0 0 95 [(0, .ref r0), (1, .int x1)] [] M (fun r M2 => r = .inl (some (.int res)) ∧ M2 = M)) : ∀ (r0 : Nat) (x1 : Int32) (x2 : Int32) (M : am_M), a_Model_crewRule_0 rc r0 x1 x2 M = some res → AW u_Model_crewRule R_Model_crewRule 0 0 2 [(0, .ref r0), (1, .int x1), (2, .int x2)] [] M (fun r M2 => r = .inl (some (.int res)) ∧ M2 = M) := by
  intro r0 x1 x2 M h
  unfold a_Model_crewRule_0 at h
  refine aw_iload_n d_Model_crewRule_2 rfl rfl ?_
  refine aw_aload_n d_Model_crewRule_3 rfl rfl ?_
  obtain ⟨t4, e_t4, h⟩ := q_bind h
  refine aw_gti d_Model_crewRule_4 fl_Model_203 (Or.inl rfl) e_t4 ?_
  refine aw_icmp_ge (tgt := 42) d_Model_crewRule_7 (by decide) (fun hc => ?_) (fun hc => ?_)
  · rw [if_pos hc] at h
    refine aw_aload_n d_Model_crewRule_42 rfl rfl ?_
    obtain ⟨t43, e_t43, h⟩ := q_bind h
    refine aw_gtr d_Model_crewRule_43 fl_Model_60 (Or.inr ⟨_, rfl⟩) e_t43 ?_
    refine aw_iload_n d_Model_crewRule_46 rfl rfl ?_
    obtain ⟨t47, e_t47, h⟩ := q_bind h
    refine aw_ldi d_Model_crewRule_47 e_t47 ?_
    refine aw_aload_n d_Model_crewRule_48 rfl rfl ?_
    obtain ⟨t49, e_t49, h⟩ := q_bind h
    refine aw_gtr d_Model_crewRule_49 fl_Model_63 (Or.inr ⟨_, rfl⟩) e_t49 ?_
    refine aw_iload_n d_Model_crewRule_52 rfl rfl ?_
    obtain ⟨t53, e_t53, h⟩ := q_bind h
    refine aw_ldi d_Model_crewRule_53 e_t53 ?_
    refine aw_icmp_ge (tgt := 95) d_Model_crewRule_54 (by decide) (fun hc => ?_) (fun hc => ?_)
    · rw [if_pos hc] at h
      exact aw_pick [0, 1] rfl (ih_1 _ _ _ _ h)
    · rw [if_neg hc] at h
      refine aw_aload_n d_Model_crewRule_57 rfl rfl ?_
      obtain ⟨t58, e_t58, h⟩ := q_bind h
      refine aw_gtr d_Model_crewRule_58 fl_Model_96 (Or.inr ⟨_, rfl⟩) e_t58 ?_
      refine aw_iconst (v := 0) d_Model_crewRule_61 (by decide) ?_
      obtain ⟨t62, e_t62, h⟩ := q_bind h
      refine aw_ldi d_Model_crewRule_62 e_t62 ?_
      refine aw_aload_n d_Model_crewRule_63 rfl rfl ?_
      obtain ⟨t64, e_t64, h⟩ := q_bind h
      refine aw_gtr d_Model_crewRule_64 fl_Model_63 (Or.inr ⟨_, rfl⟩) e_t64 ?_
      refine aw_iload_n d_Model_crewRule_67 rfl rfl ?_
      obtain ⟨t68, e_t68, h⟩ := q_bind h
      refine aw_ldi d_Model_crewRule_68 e_t68 ?_
      refine aw_icmp_ge (tgt := 95) d_Model_crewRule_69 (by decide) (fun hc => ?_) (fun hc => ?_)
      · rw [if_pos hc] at h
        exact aw_pick [0, 1] rfl (ih_1 _ _ _ _ h)
      · rw [if_neg hc] at h
        refine aw_aload_n d_Model_crewRule_72 rfl rfl ?_
        obtain ⟨t73, e_t73, h⟩ := q_bind h
        refine aw_gtr d_Model_crewRule_73 fl_Model_60 (Or.inr ⟨_, rfl⟩) e_t73 ?_
        refine aw_iload_n d_Model_crewRule_76 rfl rfl ?_
        obtain ⟨t77, e_t77, h⟩ := q_bind h
        refine aw_ldi d_Model_crewRule_77 e_t77 ?_
        refine aw_aload_n d_Model_crewRule_78 rfl rfl ?_
        obtain ⟨t79, e_t79, h⟩ := q_bind h
        refine aw_gtr d_Model_crewRule_79 fl_Model_99 (Or.inr ⟨_, rfl⟩) e_t79 ?_
        refine aw_aload_n d_Model_crewRule_82 rfl rfl ?_
        obtain ⟨t83, e_t83, h⟩ := q_bind h
        refine aw_gti d_Model_crewRule_83 fl_Model_200 (Or.inl rfl) e_t83 ?_
        refine aw_iconst (v := 1) d_Model_crewRule_86 (by decide) ?_
        refine aw_isub d_Model_crewRule_87 ?_
        obtain ⟨t88, e_t88, h⟩ := q_bind h
        refine aw_ldi d_Model_crewRule_88 e_t88 ?_
        refine aw_icmp_ge (tgt := 95) d_Model_crewRule_89 (by decide) (fun hc => ?_) (fun hc => ?_)
        · rw [if_pos hc] at h
          exact aw_pick [0, 1] rfl (ih_1 _ _ _ _ h)
        · rw [if_neg hc] at h
          refine aw_bipush (v := 11) d_Model_crewRule_92 (by decide) ?_
          cases h
          exact aw_ireturn d_Model_crewRule_94 rfl (Nat.le_of_ble_eq_true rfl) (Nat.le_of_ble_eq_true rfl) ⟨rfl, rfl⟩
  · rw [if_neg hc] at h
    refine aw_aload_n d_Model_crewRule_10 rfl rfl ?_
    obtain ⟨t11, e_t11, h⟩ := q_bind h
    refine aw_gtr d_Model_crewRule_11 fl_Model_54 (Or.inr ⟨_, rfl⟩) e_t11 ?_
    refine aw_iload_n d_Model_crewRule_14 rfl rfl ?_
    obtain ⟨t15, e_t15, h⟩ := q_bind h
    refine aw_ldi d_Model_crewRule_15 e_t15 ?_
    refine aw_aload_n d_Model_crewRule_16 rfl rfl ?_
    obtain ⟨t17, e_t17, h⟩ := q_bind h
    refine aw_gtr d_Model_crewRule_17 fl_Model_42 (Or.inr ⟨_, rfl⟩) e_t17 ?_
    refine aw_aload_n d_Model_crewRule_20 rfl rfl ?_
    obtain ⟨t21, e_t21, h⟩ := q_bind h
    refine aw_gtr d_Model_crewRule_21 fl_Model_87 (Or.inr ⟨_, rfl⟩) e_t21 ?_
    refine aw_iload_n d_Model_crewRule_24 rfl rfl ?_
    obtain ⟨t25, e_t25, h⟩ := q_bind h
    refine aw_ldi d_Model_crewRule_25 e_t25 ?_
    obtain ⟨t26, e_t26, h⟩ := q_bind h
    refine aw_ldi d_Model_crewRule_26 e_t26 ?_
    refine aw_ishr d_Model_crewRule_27 ?_
    refine aw_iconst (v := 1) d_Model_crewRule_28 (by decide) ?_
    refine aw_iand d_Model_crewRule_29 ?_
    refine aw_if_ne (tgt := 36) d_Model_crewRule_30 (by decide) (fun hc => ?_) (fun hc => ?_)
    · rw [if_neg hc] at h
      refine aw_iinc (v := (x2 + (1 : Int32))) (ls' := [(2, .int _), (0, .ref _), (1, .int _)]) d_Model_crewRule_36 rfl rfl (Nat.le_of_ble_eq_true rfl) rfl ?_
      refine aw_goto (tgt := 2) d_Model_crewRule_39 (by decide) ?_
      exact aw_pick [1, 2, 0] rfl (ih_0 _ _ _ _ h)
    · rw [if_pos hc] at h
      refine aw_bipush (v := 10) d_Model_crewRule_33 (by decide) ?_
      cases h
      exact aw_ireturn d_Model_crewRule_35 rfl (Nat.le_of_ble_eq_true rfl) (Nat.le_of_ble_eq_true rfl) ⟨rfl, rfl⟩
set_option maxHeartbeats 4000000 in
theorem s_Model_crewRule_1 {rc : Nat → Nat → Int32 → Int32 → am_M → Option (Int32)} {res : Int32} (ih_0 : ∀ (r0 : Nat) (x1 : Int32) (x2 : Int32) (M : am_M), rc 0 r0 x1 x2 M = some res → AW u_Model_crewRule R_Model_crewRule 0 0 2 [(0, .ref r0), (1, .int x1), (2, .int x2)] [] M (fun r M2 => r = .inl (some (.int res)) ∧ M2 = M)) (ih_1 : ∀ (r0 : Nat) (x1 : Int32) (x2 : Int32) (M : am_M), rc 1 r0 x1 x2 M = some res → AW u_Model_crewRule R_Model_crewRule 0 0 95 [(0, .ref r0), (1, .int x1)] [] M (fun r M2 => r = .inl (some (.int res)) ∧ M2 = M)) : ∀ (r0 : Nat) (x1 : Int32) (x2 : Int32) (M : am_M), a_Model_crewRule_1 rc r0 x1 x2 M = some res → AW u_Model_crewRule R_Model_crewRule 0 0 95 [(0, .ref r0), (1, .int x1)] [] M (fun r M2 => r = .inl (some (.int res)) ∧ M2 = M) := by
  intro r0 x1 x2 M h
  unfold a_Model_crewRule_1 at h
  refine aw_aload_n d_Model_crewRule_95 rfl rfl ?_
  obtain ⟨t96, e_t96, h⟩ := q_bind h
  refine aw_gtr d_Model_crewRule_96 fl_Model_57 (Or.inr ⟨_, rfl⟩) e_t96 ?_
  refine aw_iload_n d_Model_crewRule_99 rfl rfl ?_
  obtain ⟨t100, e_t100, h⟩ := q_bind h
  refine aw_ldi d_Model_crewRule_100 e_t100 ?_
  refine aw_aload_n d_Model_crewRule_101 rfl rfl ?_
  obtain ⟨o102, e_o102, h⟩ := q_bind h
  obtain ⟨t102, e_t102, h⟩ := q_bind h
  refine aw_cV (v := (some (.int t102))) (As := []) (rest := [.int t100]) (st' := [.int t102, .int t100]) d_Model_crewRule_102 kV_Model_219 (q_ob_spec e_o102).1 (q_ob_spec e_o102).2 ⟨Nat.le_of_ble_eq_true rfl, Nat.le_of_ble_eq_true rfl, Nat.le_of_ble_eq_true rfl, Nat.le_of_ble_eq_true rfl⟩ rfl rfl (Nat.le_of_ble_eq_true rfl) rfl (mt_Model_flying e_t102) ?_
  refine aw_iadd d_Model_crewRule_105 ?_
  refine aw_aload_n d_Model_crewRule_106 rfl rfl ?_
  obtain ⟨t107, e_t107, h⟩ := q_bind h
  refine aw_gtr d_Model_crewRule_107 fl_Model_78 (Or.inr ⟨_, rfl⟩) e_t107 ?_
  refine aw_bipush (v := 10) d_Model_crewRule_110 (by decide) ?_
  obtain ⟨t112, e_t112, h⟩ := q_bind h
  refine aw_ldi d_Model_crewRule_112 e_t112 ?_
  refine aw_icmp_le (tgt := 121) d_Model_crewRule_113 (by decide) (fun hc => ?_) (fun hc => ?_)
  · rw [if_pos hc] at h
    refine aw_iconst (v := 0) d_Model_crewRule_121 (by decide) ?_
    cases h
    exact aw_ireturn d_Model_crewRule_122 rfl (Nat.le_of_ble_eq_true rfl) (Nat.le_of_ble_eq_true rfl) ⟨rfl, rfl⟩
  · rw [if_neg hc] at h
    refine aw_bipush (v := 12) d_Model_crewRule_116 (by decide) ?_
    refine aw_goto (tgt := 122) d_Model_crewRule_118 (by decide) ?_
    cases h
    exact aw_ireturn d_Model_crewRule_122 rfl (Nat.le_of_ble_eq_true rfl) (Nat.le_of_ble_eq_true rfl) ⟨rfl, rfl⟩
theorem l_Model_crewRule {res : Int32} : ∀ F : Nat, (∀ (r0 : Nat) (x1 : Int32) (x2 : Int32) (M : am_M), g_Model_crewRule F 0 r0 x1 x2 M = some res → AW u_Model_crewRule R_Model_crewRule 0 0 2 [(0, .ref r0), (1, .int x1), (2, .int x2)] [] M (fun r M2 => r = .inl (some (.int res)) ∧ M2 = M)) ∧ (∀ (r0 : Nat) (x1 : Int32) (x2 : Int32) (M : am_M), g_Model_crewRule F 1 r0 x1 x2 M = some res → AW u_Model_crewRule R_Model_crewRule 0 0 95 [(0, .ref r0), (1, .int x1)] [] M (fun r M2 => r = .inl (some (.int res)) ∧ M2 = M)) := by
  intro F
  induction F with
  | zero => exact ⟨fun _ _ _ _  h => (by cases h), fun _ _ _ _  h => (by cases h)⟩
  | succ F ih =>
    obtain ⟨ih0, ih1⟩ := ih
    exact ⟨s_Model_crewRule_0 ih0 ih1, s_Model_crewRule_1 ih0 ih1⟩
set_option maxHeartbeats 4000000 in
theorem mt_Model_crewRule {M : am_M} {a0 : Nat} {a1 : Int32} {res : Int32} (h : f_Model_crewRule M a0 a1 = some res) : AMet y_Model_crewRule u_Model_crewRule R_Model_crewRule [.ref a0, .int a1] M (fun r M2 => r = .inl (some (.int res)) ∧ M2 = M) := by
  refine am_met (by decide +kernel) w_Model_crewRule rfl rfl (Nat.le_of_ble_eq_true rfl) ?_
  show AW u_Model_crewRule R_Model_crewRule 0 0 0 [(0, .ref a0), (1, .int a1)] [] M (fun r M2 => r = .inl (some (.int res)) ∧ M2 = M)
  have ih_0 := (l_Model_crewRule (res := res) 1000000000).1
  have ih_1 := (l_Model_crewRule (res := res) 1000000000).2
  unfold f_Model_crewRule at h
  unfold e_Model_crewRule at h
  generalize g_Model_crewRule 1000000000 = rc at h ih_0 ih_1
  refine aw_iconst (v := 0) d_Model_crewRule_0 (by decide) ?_
  refine aw_istore_n (ls' := [(2, .int _), (0, .ref _), (1, .int _)]) d_Model_crewRule_1 rfl (Nat.le_of_ble_eq_true rfl) rfl ?_
  exact aw_pick [1, 2, 0] rfl (ih_0 _ _ _ _ h)
def y_Model_clear : MethodName := ⟨"CrewOfficeModel", "clear", "()I"⟩
def u_Model_clear : am_U := ("CrewOfficeModel", "clear", prog_12_method_27_code, 2, (some .int), [])
def R_Model_clear : Room := { frames := 0, cells := 0, slots := 0, locals := 0 }
theorem d_Model_clear_0 : decode u_Model_clear.2.2.1 0 = .ok (.aload_n 0, 1) := by decide +kernel
theorem d_Model_clear_1 : decode u_Model_clear.2.2.1 1 = .ok (.iconst 0, 1) := by decide +kernel
theorem d_Model_clear_2 : decode u_Model_clear.2.2.1 2 = .ok (.putfield 155, 3) := by decide +kernel
theorem d_Model_clear_5 : decode u_Model_clear.2.2.1 5 = .ok (.aload_n 0, 1) := by decide +kernel
theorem d_Model_clear_6 : decode u_Model_clear.2.2.1 6 = .ok (.getfield 222, 3) := by decide +kernel
theorem d_Model_clear_9 : decode u_Model_clear.2.2.1 9 = .ok (.istore_n 1, 1) := by decide +kernel
theorem d_Model_clear_10 : decode u_Model_clear.2.2.1 10 = .ok (.aload_n 0, 1) := by decide +kernel
theorem d_Model_clear_11 : decode u_Model_clear.2.2.1 11 = .ok (.iconst 0, 1) := by decide +kernel
theorem d_Model_clear_12 : decode u_Model_clear.2.2.1 12 = .ok (.putfield 222, 3) := by decide +kernel
theorem d_Model_clear_15 : decode u_Model_clear.2.2.1 15 = .ok (.iload_n 1, 1) := by decide +kernel
theorem d_Model_clear_16 : decode u_Model_clear.2.2.1 16 = .ok (.ireturn, 1) := by decide +kernel
theorem w_Model_clear : am_code y_Model_clear u_Model_clear ∈ am_ws := am_mem (List.mem_of_getElem? (i := 1235) (by decide +kernel)) rfl
def e_Model_clear (M : am_M) (a0 : Nat) : Option (Int32 × am_M) := (q_pti M a0 10 0 (0 : Int32)).bind (fun M2 => (q_gti M2 a0 10 26).bind (fun t6 => (q_pti M2 a0 10 26 (0 : Int32)).bind (fun M12 => some (t6, M12))))
def f_Model_clear (M : am_M) (a0 : Nat) : Option (Int32 × am_M) := e_Model_clear M a0
theorem fl_Model_222 : am_fl "CrewOfficeModel" 222 10 26 := ⟨by decide, by decide, List.mem_of_getElem? (i := 1032) (by decide +kernel)⟩
set_option maxHeartbeats 4000000 in
theorem mt_Model_clear {M : am_M} {a0 : Nat} {res : Int32} {M' : am_M} (h : f_Model_clear M a0 = some (res, M')) : AMet y_Model_clear u_Model_clear R_Model_clear [.ref a0] M (fun r M2 => r = .inl (some (.int res)) ∧ M2 = M') := by
  refine am_met (by decide +kernel) w_Model_clear rfl rfl (Nat.le_of_ble_eq_true rfl) ?_
  show AW u_Model_clear R_Model_clear 0 0 0 [(0, .ref a0)] [] M (fun r M2 => r = .inl (some (.int res)) ∧ M2 = M')
  unfold f_Model_clear at h
  unfold e_Model_clear at h
  refine aw_aload_n d_Model_clear_0 rfl rfl ?_
  refine aw_iconst (v := 0) d_Model_clear_1 (by decide) ?_
  obtain ⟨M2, e_M2, h⟩ := q_bind h
  refine aw_pti d_Model_clear_2 fl_Model_155 rfl rfl e_M2 ?_
  refine aw_aload_n d_Model_clear_5 rfl rfl ?_
  obtain ⟨t6, e_t6, h⟩ := q_bind h
  refine aw_gti d_Model_clear_6 fl_Model_222 (Or.inl rfl) e_t6 ?_
  refine aw_istore_n (ls' := [(1, .int _), (0, .ref _)]) d_Model_clear_9 rfl (Nat.le_of_ble_eq_true rfl) rfl ?_
  refine aw_aload_n d_Model_clear_10 rfl rfl ?_
  refine aw_iconst (v := 0) d_Model_clear_11 (by decide) ?_
  obtain ⟨M12, e_M12, h⟩ := q_bind h
  refine aw_pti d_Model_clear_12 fl_Model_222 rfl rfl e_M12 ?_
  refine aw_iload_n d_Model_clear_15 rfl rfl ?_
  cases h
  exact aw_ireturn d_Model_clear_16 rfl (Nat.le_of_ble_eq_true rfl) (Nat.le_of_ble_eq_true rfl) ⟨rfl, rfl⟩
def y_Model_chain : MethodName := ⟨"CrewOfficeModel", "chain", "(I)I"⟩
def u_Model_chain : am_U := ("CrewOfficeModel", "chain", prog_12_method_28_code, 2, (some .int), [])
def R_Model_chain : Room := { frames := 1, cells := 0, slots := 0, locals := 22 }
theorem d_Model_chain_0 : decode u_Model_chain.2.2.1 0 = .ok (.aload_n 0, 1) := by decide +kernel
theorem d_Model_chain_1 : decode u_Model_chain.2.2.1 1 = .ok (.iload_n 1, 1) := by decide +kernel
theorem d_Model_chain_2 : decode u_Model_chain.2.2.1 2 = .ok (.iconst 0, 1) := by decide +kernel
theorem d_Model_chain_3 : decode u_Model_chain.2.2.1 3 = .ok (.bipush 11, 2) := by decide +kernel
theorem d_Model_chain_5 : decode u_Model_chain.2.2.1 5 = .ok (.invokestatic 180, 3) := by decide +kernel
theorem d_Model_chain_8 : decode u_Model_chain.2.2.1 8 = .ok (.ifCond .ne 7, 3) := by decide +kernel
theorem d_Model_chain_11 : decode u_Model_chain.2.2.1 11 = .ok (.iconst 1, 1) := by decide +kernel
theorem d_Model_chain_12 : decode u_Model_chain.2.2.1 12 = .ok (.goto 4, 3) := by decide +kernel
theorem d_Model_chain_15 : decode u_Model_chain.2.2.1 15 = .ok (.iconst 0, 1) := by decide +kernel
theorem d_Model_chain_16 : decode u_Model_chain.2.2.1 16 = .ok (.iconst 1, 1) := by decide +kernel
theorem d_Model_chain_17 : decode u_Model_chain.2.2.1 17 = .ok (.invokevirtual 184, 3) := by decide +kernel
theorem d_Model_chain_20 : decode u_Model_chain.2.2.1 20 = .ok (.ifCond .ne 25, 3) := by decide +kernel
theorem d_Model_chain_23 : decode u_Model_chain.2.2.1 23 = .ok (.aload_n 0, 1) := by decide +kernel
theorem d_Model_chain_24 : decode u_Model_chain.2.2.1 24 = .ok (.aload_n 0, 1) := by decide +kernel
theorem d_Model_chain_25 : decode u_Model_chain.2.2.1 25 = .ok (.getfield 222, 3) := by decide +kernel
theorem d_Model_chain_28 : decode u_Model_chain.2.2.1 28 = .ok (.bipush 8, 2) := by decide +kernel
theorem d_Model_chain_30 : decode u_Model_chain.2.2.1 30 = .ok (.if_icmp .ne 7, 3) := by decide +kernel
theorem d_Model_chain_33 : decode u_Model_chain.2.2.1 33 = .ok (.iconst 1, 1) := by decide +kernel
theorem d_Model_chain_34 : decode u_Model_chain.2.2.1 34 = .ok (.goto 4, 3) := by decide +kernel
theorem d_Model_chain_37 : decode u_Model_chain.2.2.1 37 = .ok (.iconst 0, 1) := by decide +kernel
theorem d_Model_chain_38 : decode u_Model_chain.2.2.1 38 = .ok (.iconst 2, 1) := by decide +kernel
theorem d_Model_chain_39 : decode u_Model_chain.2.2.1 39 = .ok (.invokevirtual 184, 3) := by decide +kernel
theorem d_Model_chain_42 : decode u_Model_chain.2.2.1 42 = .ok (.ifCond .eq 5, 3) := by decide +kernel
theorem d_Model_chain_45 : decode u_Model_chain.2.2.1 45 = .ok (.iconst 0, 1) := by decide +kernel
theorem d_Model_chain_46 : decode u_Model_chain.2.2.1 46 = .ok (.ireturn, 1) := by decide +kernel
theorem d_Model_chain_47 : decode u_Model_chain.2.2.1 47 = .ok (.aload_n 0, 1) := by decide +kernel
theorem d_Model_chain_48 : decode u_Model_chain.2.2.1 48 = .ok (.getfield 84, 3) := by decide +kernel
theorem d_Model_chain_51 : decode u_Model_chain.2.2.1 51 = .ok (.aload_n 0, 1) := by decide +kernel
theorem d_Model_chain_52 : decode u_Model_chain.2.2.1 52 = .ok (.getfield 222, 3) := by decide +kernel
theorem d_Model_chain_55 : decode u_Model_chain.2.2.1 55 = .ok (.iload_n 1, 1) := by decide +kernel
theorem d_Model_chain_56 : decode u_Model_chain.2.2.1 56 = .ok (.iastore, 1) := by decide +kernel
theorem d_Model_chain_57 : decode u_Model_chain.2.2.1 57 = .ok (.aload_n 0, 1) := by decide +kernel
theorem d_Model_chain_58 : decode u_Model_chain.2.2.1 58 = .ok (.dup, 1) := by decide +kernel
theorem d_Model_chain_59 : decode u_Model_chain.2.2.1 59 = .ok (.getfield 222, 3) := by decide +kernel
theorem d_Model_chain_62 : decode u_Model_chain.2.2.1 62 = .ok (.iconst 1, 1) := by decide +kernel
theorem d_Model_chain_63 : decode u_Model_chain.2.2.1 63 = .ok (.iadd, 1) := by decide +kernel
theorem d_Model_chain_64 : decode u_Model_chain.2.2.1 64 = .ok (.putfield 222, 3) := by decide +kernel
theorem d_Model_chain_67 : decode u_Model_chain.2.2.1 67 = .ok (.aload_n 0, 1) := by decide +kernel
theorem d_Model_chain_68 : decode u_Model_chain.2.2.1 68 = .ok (.getfield 222, 3) := by decide +kernel
theorem d_Model_chain_71 : decode u_Model_chain.2.2.1 71 = .ok (.ireturn, 1) := by decide +kernel
theorem w_Model_chain : am_code y_Model_chain u_Model_chain ∈ am_ws := am_mem (List.mem_of_getElem? (i := 1239) (by decide +kernel)) rfl
def a_Model_chain_0 (rc : Nat → Nat → Int32 → Int32 → Nat → am_M → Option (Int32 × am_M)) (r0 : Nat) (x1 : Int32) (s0 : Int32) (sr1 : Nat) (M : am_M) : Option (Int32 × am_M) := (q_ob M sr1 10).bind (fun o17 => (f_Model_fails M sr1 s0 (1 : Int32)).bind (fun p17 => if p17.1 = 0 then ((q_gti p17.2 r0 10 26).bind (fun t25 => if t25 = (8 : Int32) then (rc 1 r0 x1 (1 : Int32) r0 p17.2) else (rc 1 r0 x1 (0 : Int32) r0 p17.2))) else (some ((0 : Int32), p17.2))))
def a_Model_chain_1 (rc : Nat → Nat → Int32 → Int32 → Nat → am_M → Option (Int32 × am_M)) (r0 : Nat) (x1 : Int32) (s0 : Int32) (sr1 : Nat) (M : am_M) : Option (Int32 × am_M) := (q_ob M sr1 10).bind (fun o39 => (f_Model_fails M sr1 s0 (2 : Int32)).bind (fun p39 => if p39.1 = 0 then ((q_gtr p39.2 r0 10 25).bind (fun t48 => (q_gti p39.2 r0 10 26).bind (fun t52 => (q_sti p39.2 t48 t52 x1).bind (fun M56 => (q_gti M56 r0 10 26).bind (fun t59 => (q_pti M56 r0 10 26 (t59 + (1 : Int32))).bind (fun M64 => (q_gti M64 r0 10 26).bind (fun t68 => some (t68, M64)))))))) else (some ((0 : Int32), p39.2))))
def g_Model_chain : Nat → Nat → Nat → Int32 → Int32 → Nat → am_M → Option (Int32 × am_M)
  | 0, _, _, _, _, _, _ => none
  | F + 1, 0, r0, x1, s0, sr1, M => a_Model_chain_0 (g_Model_chain F) r0 x1 s0 sr1 M
  | F + 1, 1, r0, x1, s0, sr1, M => a_Model_chain_1 (g_Model_chain F) r0 x1 s0 sr1 M
  | _ + 1, _ + 2, _, _, _, _, _ => none
def e_Model_chain (rc : Nat → Nat → Int32 → Int32 → Nat → am_M → Option (Int32 × am_M)) (M : am_M) (a0 : Nat) (a1 : Int32) : Option (Int32 × am_M) := (f_Model_within M a1 (0 : Int32) (11 : Int32)).bind (fun t5 => if t5 = 0 then (rc 0 a0 a1 (1 : Int32) a0 M) else (rc 0 a0 a1 (0 : Int32) a0 M))
def f_Model_chain (M : am_M) (a0 : Nat) (a1 : Int32) : Option (Int32 × am_M) := e_Model_chain (g_Model_chain 1000000000) M a0 a1
theorem fl_Model_84 : am_fl "CrewOfficeModel" 84 10 25 := ⟨by decide, by decide, List.mem_of_getElem? (i := 1031) (by decide +kernel)⟩
theorem kS_Model_180 : am_kS "CrewOfficeModel" 180 y_Model_within u_Model_within 3 := ⟨List.mem_of_getElem? (i := 1178) (by decide +kernel), List.mem_of_getElem? (i := 1179) (by decide +kernel), List.mem_of_getElem? (i := 65) (by decide +kernel), w_Model_within, ⟨⟨by decide +kernel, by decide +kernel⟩, by decide +kernel⟩⟩
theorem kV_Model_184 : am_kV "CrewOfficeModel" 184 10 y_Model_fails u_Model_fails 2 := ⟨List.mem_of_getElem? (i := 1181) (by decide +kernel), ⟨List.mem_of_getElem? (i := 1183) (by decide +kernel), List.mem_of_getElem? (i := 28) (by decide +kernel)⟩, List.mem_of_getElem? (i := 65) (by decide +kernel), w_Model_fails, ⟨⟨by decide +kernel, by decide +kernel⟩, by decide +kernel⟩⟩
set_option maxHeartbeats 4000000 in
theorem s_Model_chain_0 {rc : Nat → Nat → Int32 → Int32 → Nat → am_M → Option (Int32 × am_M)} {res : Int32} {M' : am_M} (ih_0 : ∀ (r0 : Nat) (x1 : Int32) (s0 : Int32) (sr1 : Nat) (M : am_M), rc 0 r0 x1 s0 sr1 M = some (res, M') → AW u_Model_chain R_Model_chain 0 0 16 [(0, .ref r0), (1, .int x1)] [.int s0, .ref sr1] M (fun r M2 => r = .inl (some (.int res)) ∧ M2 = M')) (ih_1 : ∀ (r0 : Nat) (x1 : Int32) (s0 : Int32) (sr1 : Nat) (M : am_M), rc 1 r0 x1 s0 sr1 M = some (res, M') → AW u_Model_chain R_Model_chain 0 0 38 [(0, .ref r0), (1, .int x1)] [.int s0, .ref sr1] M (fun r M2 => r = .inl (some (.int res)) ∧ M2 = M')) : ∀ (r0 : Nat) (x1 : Int32) (s0 : Int32) (sr1 : Nat) (M : am_M), a_Model_chain_0 rc r0 x1 s0 sr1 M = some (res, M') → AW u_Model_chain R_Model_chain 0 0 16 [(0, .ref r0), (1, .int x1)] [.int s0, .ref sr1] M (fun r M2 => r = .inl (some (.int res)) ∧ M2 = M') := by
  intro r0 x1 s0 sr1 M h
  unfold a_Model_chain_0 at h
  refine aw_iconst (v := 1) d_Model_chain_16 (by decide) ?_
  obtain ⟨o17, e_o17, h⟩ := q_bind h
  obtain ⟨⟨t17, M17⟩, e_t17, h⟩ := q_bind h
  dsimp only at h
  refine aw_cV (v := (some (.int t17))) (As := [.int s0, .int (1 : Int32)]) (rest := []) (st' := [.int t17]) d_Model_chain_17 kV_Model_184 (q_ob_spec e_o17).1 (q_ob_spec e_o17).2 ⟨Nat.le_of_ble_eq_true rfl, Nat.le_of_ble_eq_true rfl, Nat.le_of_ble_eq_true rfl, Nat.le_of_ble_eq_true rfl⟩ rfl rfl (Nat.le_of_ble_eq_true rfl) rfl (mt_Model_fails e_t17) ?_
  refine aw_if_ne (tgt := 45) d_Model_chain_20 (by decide) (fun hc => ?_) (fun hc => ?_)
  · rw [if_neg hc] at h
    refine aw_iconst (v := 0) d_Model_chain_45 (by decide) ?_
    cases h
    exact aw_ireturn d_Model_chain_46 rfl (Nat.le_of_ble_eq_true rfl) (Nat.le_of_ble_eq_true rfl) ⟨rfl, rfl⟩
  · rw [if_pos hc] at h
    refine aw_aload_n d_Model_chain_23 rfl rfl ?_
    refine aw_aload_n d_Model_chain_24 rfl rfl ?_
    obtain ⟨t25, e_t25, h⟩ := q_bind h
    refine aw_gti d_Model_chain_25 fl_Model_222 (Or.inl rfl) e_t25 ?_
    refine aw_bipush (v := 8) d_Model_chain_28 (by decide) ?_
    refine aw_icmp_ne (tgt := 37) d_Model_chain_30 (by decide) (fun hc => ?_) (fun hc => ?_)
    · rw [if_neg hc] at h
      refine aw_iconst (v := 0) d_Model_chain_37 (by decide) ?_
      exact aw_pick [0, 1] rfl (ih_1 _ _ _ _ _ h)
    · rw [if_pos hc] at h
      refine aw_iconst (v := 1) d_Model_chain_33 (by decide) ?_
      refine aw_goto (tgt := 38) d_Model_chain_34 (by decide) ?_
      exact aw_pick [0, 1] rfl (ih_1 _ _ _ _ _ h)
set_option maxHeartbeats 4000000 in
theorem s_Model_chain_1 {rc : Nat → Nat → Int32 → Int32 → Nat → am_M → Option (Int32 × am_M)} {res : Int32} {M' : am_M} (ih_0 : ∀ (r0 : Nat) (x1 : Int32) (s0 : Int32) (sr1 : Nat) (M : am_M), rc 0 r0 x1 s0 sr1 M = some (res, M') → AW u_Model_chain R_Model_chain 0 0 16 [(0, .ref r0), (1, .int x1)] [.int s0, .ref sr1] M (fun r M2 => r = .inl (some (.int res)) ∧ M2 = M')) (ih_1 : ∀ (r0 : Nat) (x1 : Int32) (s0 : Int32) (sr1 : Nat) (M : am_M), rc 1 r0 x1 s0 sr1 M = some (res, M') → AW u_Model_chain R_Model_chain 0 0 38 [(0, .ref r0), (1, .int x1)] [.int s0, .ref sr1] M (fun r M2 => r = .inl (some (.int res)) ∧ M2 = M')) : ∀ (r0 : Nat) (x1 : Int32) (s0 : Int32) (sr1 : Nat) (M : am_M), a_Model_chain_1 rc r0 x1 s0 sr1 M = some (res, M') → AW u_Model_chain R_Model_chain 0 0 38 [(0, .ref r0), (1, .int x1)] [.int s0, .ref sr1] M (fun r M2 => r = .inl (some (.int res)) ∧ M2 = M') := by
  intro r0 x1 s0 sr1 M h
  unfold a_Model_chain_1 at h
  refine aw_iconst (v := 2) d_Model_chain_38 (by decide) ?_
  obtain ⟨o39, e_o39, h⟩ := q_bind h
  obtain ⟨⟨t39, M39⟩, e_t39, h⟩ := q_bind h
  dsimp only at h
  refine aw_cV (v := (some (.int t39))) (As := [.int s0, .int (2 : Int32)]) (rest := []) (st' := [.int t39]) d_Model_chain_39 kV_Model_184 (q_ob_spec e_o39).1 (q_ob_spec e_o39).2 ⟨Nat.le_of_ble_eq_true rfl, Nat.le_of_ble_eq_true rfl, Nat.le_of_ble_eq_true rfl, Nat.le_of_ble_eq_true rfl⟩ rfl rfl (Nat.le_of_ble_eq_true rfl) rfl (mt_Model_fails e_t39) ?_
  refine aw_if_eq (tgt := 47) d_Model_chain_42 (by decide) (fun hc => ?_) (fun hc => ?_)
  · rw [if_pos hc] at h
    refine aw_aload_n d_Model_chain_47 rfl rfl ?_
    obtain ⟨t48, e_t48, h⟩ := q_bind h
    refine aw_gtr d_Model_chain_48 fl_Model_84 (Or.inr ⟨_, rfl⟩) e_t48 ?_
    refine aw_aload_n d_Model_chain_51 rfl rfl ?_
    obtain ⟨t52, e_t52, h⟩ := q_bind h
    refine aw_gti d_Model_chain_52 fl_Model_222 (Or.inl rfl) e_t52 ?_
    refine aw_iload_n d_Model_chain_55 rfl rfl ?_
    obtain ⟨M56, e_M56, h⟩ := q_bind h
    refine aw_sti d_Model_chain_56 e_M56 ?_
    refine aw_aload_n d_Model_chain_57 rfl rfl ?_
    refine aw_dup d_Model_chain_58 rfl ?_
    obtain ⟨t59, e_t59, h⟩ := q_bind h
    refine aw_gti d_Model_chain_59 fl_Model_222 (Or.inl rfl) e_t59 ?_
    refine aw_iconst (v := 1) d_Model_chain_62 (by decide) ?_
    refine aw_iadd d_Model_chain_63 ?_
    obtain ⟨M64, e_M64, h⟩ := q_bind h
    refine aw_pti d_Model_chain_64 fl_Model_222 rfl rfl e_M64 ?_
    refine aw_aload_n d_Model_chain_67 rfl rfl ?_
    obtain ⟨t68, e_t68, h⟩ := q_bind h
    refine aw_gti d_Model_chain_68 fl_Model_222 (Or.inl rfl) e_t68 ?_
    cases h
    exact aw_ireturn d_Model_chain_71 rfl (Nat.le_of_ble_eq_true rfl) (Nat.le_of_ble_eq_true rfl) ⟨rfl, rfl⟩
  · rw [if_neg hc] at h
    refine aw_iconst (v := 0) d_Model_chain_45 (by decide) ?_
    cases h
    exact aw_ireturn d_Model_chain_46 rfl (Nat.le_of_ble_eq_true rfl) (Nat.le_of_ble_eq_true rfl) ⟨rfl, rfl⟩
theorem l_Model_chain {res : Int32} {M' : am_M} : ∀ F : Nat, (∀ (r0 : Nat) (x1 : Int32) (s0 : Int32) (sr1 : Nat) (M : am_M), g_Model_chain F 0 r0 x1 s0 sr1 M = some (res, M') → AW u_Model_chain R_Model_chain 0 0 16 [(0, .ref r0), (1, .int x1)] [.int s0, .ref sr1] M (fun r M2 => r = .inl (some (.int res)) ∧ M2 = M')) ∧ (∀ (r0 : Nat) (x1 : Int32) (s0 : Int32) (sr1 : Nat) (M : am_M), g_Model_chain F 1 r0 x1 s0 sr1 M = some (res, M') → AW u_Model_chain R_Model_chain 0 0 38 [(0, .ref r0), (1, .int x1)] [.int s0, .ref sr1] M (fun r M2 => r = .inl (some (.int res)) ∧ M2 = M')) := by
  intro F
  induction F with
  | zero => exact ⟨fun _ _ _ _ _  h => (by cases h), fun _ _ _ _ _  h => (by cases h)⟩
  | succ F ih =>
    obtain ⟨ih0, ih1⟩ := ih
    exact ⟨s_Model_chain_0 ih0 ih1, s_Model_chain_1 ih0 ih1⟩
set_option maxHeartbeats 4000000 in
theorem mt_Model_chain {M : am_M} {a0 : Nat} {a1 : Int32} {res : Int32} {M' : am_M} (h : f_Model_chain M a0 a1 = some (res, M')) : AMet y_Model_chain u_Model_chain R_Model_chain [.ref a0, .int a1] M (fun r M2 => r = .inl (some (.int res)) ∧ M2 = M') := by
  refine am_met (by decide +kernel) w_Model_chain rfl rfl (Nat.le_of_ble_eq_true rfl) ?_
  show AW u_Model_chain R_Model_chain 0 0 0 [(0, .ref a0), (1, .int a1)] [] M (fun r M2 => r = .inl (some (.int res)) ∧ M2 = M')
  have ih_0 := (l_Model_chain (res := res) (M' := M') 1000000000).1
  have ih_1 := (l_Model_chain (res := res) (M' := M') 1000000000).2
  unfold f_Model_chain at h
  unfold e_Model_chain at h
  generalize g_Model_chain 1000000000 = rc at h ih_0 ih_1
  refine aw_aload_n d_Model_chain_0 rfl rfl ?_
  refine aw_iload_n d_Model_chain_1 rfl rfl ?_
  refine aw_iconst (v := 0) d_Model_chain_2 (by decide) ?_
  refine aw_bipush (v := 11) d_Model_chain_3 (by decide) ?_
  obtain ⟨t5, e_t5, h⟩ := q_bind h
  refine aw_cS (v := (some (.int t5))) (As := [.int a1, .int (0 : Int32), .int (11 : Int32)]) (rest := [.ref a0]) (st' := [.int t5, .ref a0]) d_Model_chain_5 kS_Model_180 ⟨Nat.le_of_ble_eq_true rfl, Nat.le_of_ble_eq_true rfl, Nat.le_of_ble_eq_true rfl, Nat.le_of_ble_eq_true rfl⟩ rfl rfl (Nat.le_of_ble_eq_true rfl) rfl (mt_Model_within e_t5) ?_
  refine aw_if_ne (tgt := 15) d_Model_chain_8 (by decide) (fun hc => ?_) (fun hc => ?_)
  · rw [if_neg hc] at h
    refine aw_iconst (v := 0) d_Model_chain_15 (by decide) ?_
    exact aw_pick [0, 1] rfl (ih_0 _ _ _ _ _ h)
  · rw [if_pos hc] at h
    refine aw_iconst (v := 1) d_Model_chain_11 (by decide) ?_
    refine aw_goto (tgt := 16) d_Model_chain_12 (by decide) ?_
    exact aw_pick [0, 1] rfl (ih_0 _ _ _ _ _ h)
