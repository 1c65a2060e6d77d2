-- Model_holds Model_scoreOf Model_orders Model_gives Model_takes Model_chooses
def y_Model_holds : MethodName := ⟨"CrewOfficeModel", "holds", "(II)I"⟩
def u_Model_holds : am_U := ("CrewOfficeModel", "holds", prog_12_method_42_code, 7, (some .int), [])
def R_Model_holds : Room := { frames := 0, cells := 0, slots := 0, locals := 0 }
theorem d_Model_holds_0 : decode u_Model_holds.2.2.1 0 = .ok (.iconst 0, 1) := by decide +kernel
theorem d_Model_holds_1 : decode u_Model_holds.2.2.1 1 = .ok (.istore_n 3, 1) := by decide +kernel
theorem d_Model_holds_2 : decode u_Model_holds.2.2.1 2 = .ok (.iconst 0, 1) := by decide +kernel
theorem d_Model_holds_3 : decode u_Model_holds.2.2.1 3 = .ok (.istore 4, 2) := by decide +kernel
theorem d_Model_holds_5 : decode u_Model_holds.2.2.1 5 = .ok (.iconst 0, 1) := by decide +kernel
theorem d_Model_holds_6 : decode u_Model_holds.2.2.1 6 = .ok (.istore 5, 2) := by decide +kernel
theorem d_Model_holds_8 : decode u_Model_holds.2.2.1 8 = .ok (.iload 5, 2) := by decide +kernel
theorem d_Model_holds_10 : decode u_Model_holds.2.2.1 10 = .ok (.aload_n 0, 1) := by decide +kernel
theorem d_Model_holds_11 : decode u_Model_holds.2.2.1 11 = .ok (.getfield 102, 3) := by decide +kernel
theorem d_Model_holds_14 : decode u_Model_holds.2.2.1 14 = .ok (.if_icmp .ge 196, 3) := by decide +kernel
theorem d_Model_holds_17 : decode u_Model_holds.2.2.1 17 = .ok (.aload_n 0, 1) := by decide +kernel
theorem d_Model_holds_18 : decode u_Model_holds.2.2.1 18 = .ok (.getfield 127, 3) := by decide +kernel
theorem d_Model_holds_21 : decode u_Model_holds.2.2.1 21 = .ok (.iload 5, 2) := by decide +kernel
theorem d_Model_holds_23 : decode u_Model_holds.2.2.1 23 = .ok (.iaload, 1) := by decide +kernel
theorem d_Model_holds_24 : decode u_Model_holds.2.2.1 24 = .ok (.iload_n 2, 1) := by decide +kernel
theorem d_Model_holds_25 : decode u_Model_holds.2.2.1 25 = .ok (.if_icmp .eq 6, 3) := by decide +kernel
theorem d_Model_holds_28 : decode u_Model_holds.2.2.1 28 = .ok (.goto 176, 3) := by decide +kernel
theorem d_Model_holds_31 : decode u_Model_holds.2.2.1 31 = .ok (.aload_n 0, 1) := by decide +kernel
theorem d_Model_holds_32 : decode u_Model_holds.2.2.1 32 = .ok (.getfield 69, 3) := by decide +kernel
theorem d_Model_holds_35 : decode u_Model_holds.2.2.1 35 = .ok (.iload_n 1, 1) := by decide +kernel
theorem d_Model_holds_36 : decode u_Model_holds.2.2.1 36 = .ok (.iaload, 1) := by decide +kernel
theorem d_Model_holds_37 : decode u_Model_holds.2.2.1 37 = .ok (.ifCond .ne 35, 3) := by decide +kernel
theorem d_Model_holds_40 : decode u_Model_holds.2.2.1 40 = .ok (.iload 4, 2) := by decide +kernel
theorem d_Model_holds_42 : decode u_Model_holds.2.2.1 42 = .ok (.ifCond .ne 23, 3) := by decide +kernel
theorem d_Model_holds_45 : decode u_Model_holds.2.2.1 45 = .ok (.aload_n 0, 1) := by decide +kernel
theorem d_Model_holds_46 : decode u_Model_holds.2.2.1 46 = .ok (.getfield 121, 3) := by decide +kernel
theorem d_Model_holds_49 : decode u_Model_holds.2.2.1 49 = .ok (.iload 5, 2) := by decide +kernel
theorem d_Model_holds_51 : decode u_Model_holds.2.2.1 51 = .ok (.iaload, 1) := by decide +kernel
theorem d_Model_holds_52 : decode u_Model_holds.2.2.1 52 = .ok (.aload_n 0, 1) := by decide +kernel
theorem d_Model_holds_53 : decode u_Model_holds.2.2.1 53 = .ok (.getfield 72, 3) := by decide +kernel
theorem d_Model_holds_56 : decode u_Model_holds.2.2.1 56 = .ok (.iload_n 1, 1) := by decide +kernel
theorem d_Model_holds_57 : decode u_Model_holds.2.2.1 57 = .ok (.iaload, 1) := by decide +kernel
theorem d_Model_holds_58 : decode u_Model_holds.2.2.1 58 = .ok (.ishr, 1) := by decide +kernel
theorem d_Model_holds_59 : decode u_Model_holds.2.2.1 59 = .ok (.iconst 1, 1) := by decide +kernel
theorem d_Model_holds_60 : decode u_Model_holds.2.2.1 60 = .ok (.iand, 1) := by decide +kernel
theorem d_Model_holds_61 : decode u_Model_holds.2.2.1 61 = .ok (.iconst 1, 1) := by decide +kernel
theorem d_Model_holds_62 : decode u_Model_holds.2.2.1 62 = .ok (.if_icmp .ne 7, 3) := by decide +kernel
theorem d_Model_holds_65 : decode u_Model_holds.2.2.1 65 = .ok (.iconst 1, 1) := by decide +kernel
theorem d_Model_holds_66 : decode u_Model_holds.2.2.1 66 = .ok (.goto 4, 3) := by decide +kernel
theorem d_Model_holds_69 : decode u_Model_holds.2.2.1 69 = .ok (.iconst 0, 1) := by decide +kernel
theorem d_Model_holds_70 : decode u_Model_holds.2.2.1 70 = .ok (.istore 4, 2) := by decide +kernel
theorem d_Model_holds_72 : decode u_Model_holds.2.2.1 72 = .ok (.aload_n 0, 1) := by decide +kernel
theorem d_Model_holds_73 : decode u_Model_holds.2.2.1 73 = .ok (.getfield 69, 3) := by decide +kernel
theorem d_Model_holds_76 : decode u_Model_holds.2.2.1 76 = .ok (.iload_n 1, 1) := by decide +kernel
theorem d_Model_holds_77 : decode u_Model_holds.2.2.1 77 = .ok (.iaload, 1) := by decide +kernel
theorem d_Model_holds_78 : decode u_Model_holds.2.2.1 78 = .ok (.iconst 2, 1) := by decide +kernel
theorem d_Model_holds_79 : decode u_Model_holds.2.2.1 79 = .ok (.if_icmp .ne 59, 3) := by decide +kernel
theorem d_Model_holds_82 : decode u_Model_holds.2.2.1 82 = .ok (.iload 4, 2) := by decide +kernel
theorem d_Model_holds_84 : decode u_Model_holds.2.2.1 84 = .ok (.ifCond .ne 47, 3) := by decide +kernel
theorem d_Model_holds_87 : decode u_Model_holds.2.2.1 87 = .ok (.aload_n 0, 1) := by decide +kernel
theorem d_Model_holds_88 : decode u_Model_holds.2.2.1 88 = .ok (.getfield 112, 3) := by decide +kernel
theorem d_Model_holds_91 : decode u_Model_holds.2.2.1 91 = .ok (.iload 5, 2) := by decide +kernel
theorem d_Model_holds_93 : decode u_Model_holds.2.2.1 93 = .ok (.iaload, 1) := by decide +kernel
theorem d_Model_holds_94 : decode u_Model_holds.2.2.1 94 = .ok (.sipush 1440, 3) := by decide +kernel
theorem d_Model_holds_97 : decode u_Model_holds.2.2.1 97 = .ok (.aload_n 0, 1) := by decide +kernel
theorem d_Model_holds_98 : decode u_Model_holds.2.2.1 98 = .ok (.getfield 72, 3) := by decide +kernel
theorem d_Model_holds_101 : decode u_Model_holds.2.2.1 101 = .ok (.iload_n 1, 1) := by decide +kernel
theorem d_Model_holds_102 : decode u_Model_holds.2.2.1 102 = .ok (.iaload, 1) := by decide +kernel
theorem d_Model_holds_103 : decode u_Model_holds.2.2.1 103 = .ok (.imul, 1) := by decide +kernel
theorem d_Model_holds_104 : decode u_Model_holds.2.2.1 104 = .ok (.sipush 1440, 3) := by decide +kernel
theorem d_Model_holds_107 : decode u_Model_holds.2.2.1 107 = .ok (.iadd, 1) := by decide +kernel
theorem d_Model_holds_108 : decode u_Model_holds.2.2.1 108 = .ok (.if_icmp .ge 27, 3) := by decide +kernel
theorem d_Model_holds_111 : decode u_Model_holds.2.2.1 111 = .ok (.aload_n 0, 1) := by decide +kernel
theorem d_Model_holds_112 : decode u_Model_holds.2.2.1 112 = .ok (.getfield 115, 3) := by decide +kernel
theorem d_Model_holds_115 : decode u_Model_holds.2.2.1 115 = .ok (.iload 5, 2) := by decide +kernel
theorem d_Model_holds_117 : decode u_Model_holds.2.2.1 117 = .ok (.iaload, 1) := by decide +kernel
theorem d_Model_holds_118 : decode u_Model_holds.2.2.1 118 = .ok (.sipush 1440, 3) := by decide +kernel
theorem d_Model_holds_121 : decode u_Model_holds.2.2.1 121 = .ok (.aload_n 0, 1) := by decide +kernel
theorem d_Model_holds_122 : decode u_Model_holds.2.2.1 122 = .ok (.getfield 72, 3) := by decide +kernel
theorem d_Model_holds_125 : decode u_Model_holds.2.2.1 125 = .ok (.iload_n 1, 1) := by decide +kernel
theorem d_Model_holds_126 : decode u_Model_holds.2.2.1 126 = .ok (.iaload, 1) := by decide +kernel
theorem d_Model_holds_127 : decode u_Model_holds.2.2.1 127 = .ok (.imul, 1) := by decide +kernel
theorem d_Model_holds_128 : decode u_Model_holds.2.2.1 128 = .ok (.if_icmp .le 7, 3) := by decide +kernel
theorem d_Model_holds_131 : decode u_Model_holds.2.2.1 131 = .ok (.iconst 1, 1) := by decide +kernel
theorem d_Model_holds_132 : decode u_Model_holds.2.2.1 132 = .ok (.goto 4, 3) := by decide +kernel
theorem d_Model_holds_135 : decode u_Model_holds.2.2.1 135 = .ok (.iconst 0, 1) := by decide +kernel
theorem d_Model_holds_136 : decode u_Model_holds.2.2.1 136 = .ok (.istore 4, 2) := by decide +kernel
theorem d_Model_holds_138 : decode u_Model_holds.2.2.1 138 = .ok (.iconst 0, 1) := by decide +kernel
theorem d_Model_holds_139 : decode u_Model_holds.2.2.1 139 = .ok (.istore 6, 2) := by decide +kernel
theorem d_Model_holds_141 : decode u_Model_holds.2.2.1 141 = .ok (.iload 6, 2) := by decide +kernel
theorem d_Model_holds_143 : decode u_Model_holds.2.2.1 143 = .ok (.aload_n 0, 1) := by decide +kernel
theorem d_Model_holds_144 : decode u_Model_holds.2.2.1 144 = .ok (.getfield 109, 3) := by decide +kernel
theorem d_Model_holds_147 : decode u_Model_holds.2.2.1 147 = .ok (.iload 5, 2) := by decide +kernel
theorem d_Model_holds_149 : decode u_Model_holds.2.2.1 149 = .ok (.iaload, 1) := by decide +kernel
theorem d_Model_holds_150 : decode u_Model_holds.2.2.1 150 = .ok (.if_icmp .ge 54, 3) := by decide +kernel
theorem d_Model_holds_153 : decode u_Model_holds.2.2.1 153 = .ok (.aload_n 0, 1) := by decide +kernel
theorem d_Model_holds_154 : decode u_Model_holds.2.2.1 154 = .ok (.getfield 69, 3) := by decide +kernel
theorem d_Model_holds_157 : decode u_Model_holds.2.2.1 157 = .ok (.iload_n 1, 1) := by decide +kernel
theorem d_Model_holds_158 : decode u_Model_holds.2.2.1 158 = .ok (.iaload, 1) := by decide +kernel
theorem d_Model_holds_159 : decode u_Model_holds.2.2.1 159 = .ok (.iconst 1, 1) := by decide +kernel
theorem d_Model_holds_160 : decode u_Model_holds.2.2.1 160 = .ok (.if_icmp .ne 44, 3) := by decide +kernel
theorem d_Model_holds_163 : decode u_Model_holds.2.2.1 163 = .ok (.iload_n 3, 1) := by decide +kernel
theorem d_Model_holds_164 : decode u_Model_holds.2.2.1 164 = .ok (.aload_n 0, 1) := by decide +kernel
theorem d_Model_holds_165 : decode u_Model_holds.2.2.1 165 = .ok (.getfield 33, 3) := by decide +kernel
theorem d_Model_holds_168 : decode u_Model_holds.2.2.1 168 = .ok (.aload_n 0, 1) := by decide +kernel
theorem d_Model_holds_169 : decode u_Model_holds.2.2.1 169 = .ok (.getfield 106, 3) := by decide +kernel
theorem d_Model_holds_172 : decode u_Model_holds.2.2.1 172 = .ok (.bipush 8, 2) := by decide +kernel
theorem d_Model_holds_174 : decode u_Model_holds.2.2.1 174 = .ok (.iload 5, 2) := by decide +kernel
theorem d_Model_holds_176 : decode u_Model_holds.2.2.1 176 = .ok (.imul, 1) := by decide +kernel
theorem d_Model_holds_177 : decode u_Model_holds.2.2.1 177 = .ok (.iload 6, 2) := by decide +kernel
theorem d_Model_holds_179 : decode u_Model_holds.2.2.1 179 = .ok (.iadd, 1) := by decide +kernel
theorem d_Model_holds_180 : decode u_Model_holds.2.2.1 180 = .ok (.iaload, 1) := by decide +kernel
theorem d_Model_holds_181 : decode u_Model_holds.2.2.1 181 = .ok (.iaload, 1) := by decide +kernel
theorem d_Model_holds_182 : decode u_Model_holds.2.2.1 182 = .ok (.aload_n 0, 1) := by decide +kernel
theorem d_Model_holds_183 : decode u_Model_holds.2.2.1 183 = .ok (.getfield 72, 3) := by decide +kernel
theorem d_Model_holds_186 : decode u_Model_holds.2.2.1 186 = .ok (.iload_n 1, 1) := by decide +kernel
theorem d_Model_holds_187 : decode u_Model_holds.2.2.1 187 = .ok (.iaload, 1) := by decide +kernel
theorem d_Model_holds_188 : decode u_Model_holds.2.2.1 188 = .ok (.if_icmp .ne 7, 3) := by decide +kernel
theorem d_Model_holds_191 : decode u_Model_holds.2.2.1 191 = .ok (.iconst 1, 1) := by decide +kernel
theorem d_Model_holds_192 : decode u_Model_holds.2.2.1 192 = .ok (.goto 4, 3) := by decide +kernel
theorem d_Model_holds_195 : decode u_Model_holds.2.2.1 195 = .ok (.iconst 0, 1) := by decide +kernel
theorem d_Model_holds_196 : decode u_Model_holds.2.2.1 196 = .ok (.iadd, 1) := by decide +kernel
theorem d_Model_holds_197 : decode u_Model_holds.2.2.1 197 = .ok (.istore_n 3, 1) := by decide +kernel
theorem d_Model_holds_198 : decode u_Model_holds.2.2.1 198 = .ok (.iinc 6 1, 3) := by decide +kernel
theorem d_Model_holds_201 : decode u_Model_holds.2.2.1 201 = .ok (.goto (-60), 3) := by decide +kernel
theorem d_Model_holds_204 : decode u_Model_holds.2.2.1 204 = .ok (.iinc 5 1, 3) := by decide +kernel
theorem d_Model_holds_207 : decode u_Model_holds.2.2.1 207 = .ok (.goto (-199), 3) := by decide +kernel
theorem d_Model_holds_210 : decode u_Model_holds.2.2.1 210 = .ok (.aload_n 0, 1) := by decide +kernel
theorem d_Model_holds_211 : decode u_Model_holds.2.2.1 211 = .ok (.getfield 69, 3) := by decide +kernel
theorem d_Model_holds_214 : decode u_Model_holds.2.2.1 214 = .ok (.iload_n 1, 1) := by decide +kernel
theorem d_Model_holds_215 : decode u_Model_holds.2.2.1 215 = .ok (.iaload, 1) := by decide +kernel
theorem d_Model_holds_216 : decode u_Model_holds.2.2.1 216 = .ok (.iconst 1, 1) := by decide +kernel
theorem d_Model_holds_217 : decode u_Model_holds.2.2.1 217 = .ok (.if_icmp .ne 7, 3) := by decide +kernel
theorem d_Model_holds_220 : decode u_Model_holds.2.2.1 220 = .ok (.iload_n 3, 1) := by decide +kernel
theorem d_Model_holds_221 : decode u_Model_holds.2.2.1 221 = .ok (.goto 27, 3) := by decide +kernel
theorem d_Model_holds_224 : decode u_Model_holds.2.2.1 224 = .ok (.iload 4, 2) := by decide +kernel
theorem d_Model_holds_226 : decode u_Model_holds.2.2.1 226 = .ok (.aload_n 0, 1) := by decide +kernel
theorem d_Model_holds_227 : decode u_Model_holds.2.2.1 227 = .ok (.getfield 69, 3) := by decide +kernel
theorem d_Model_holds_230 : decode u_Model_holds.2.2.1 230 = .ok (.iload_n 1, 1) := by decide +kernel
theorem d_Model_holds_231 : decode u_Model_holds.2.2.1 231 = .ok (.iaload, 1) := by decide +kernel
theorem d_Model_holds_232 : decode u_Model_holds.2.2.1 232 = .ok (.ifCond .ne 7, 3) := by decide +kernel
theorem d_Model_holds_235 : decode u_Model_holds.2.2.1 235 = .ok (.iconst 1, 1) := by decide +kernel
theorem d_Model_holds_236 : decode u_Model_holds.2.2.1 236 = .ok (.goto 4, 3) := by decide +kernel
theorem d_Model_holds_239 : decode u_Model_holds.2.2.1 239 = .ok (.iconst 0, 1) := by decide +kernel
theorem d_Model_holds_240 : decode u_Model_holds.2.2.1 240 = .ok (.if_icmp .ne 7, 3) := by decide +kernel
theorem d_Model_holds_243 : decode u_Model_holds.2.2.1 243 = .ok (.iconst 1, 1) := by decide +kernel
theorem d_Model_holds_244 : decode u_Model_holds.2.2.1 244 = .ok (.goto 4, 3) := by decide +kernel
theorem d_Model_holds_247 : decode u_Model_holds.2.2.1 247 = .ok (.iconst 0, 1) := by decide +kernel
theorem d_Model_holds_248 : decode u_Model_holds.2.2.1 248 = .ok (.ireturn, 1) := by decide +kernel
theorem w_Model_holds : am_code y_Model_holds u_Model_holds ∈ am_ws := am_mem (List.mem_of_getElem? (i := 1359) (by decide +kernel)) rfl
def a_Model_holds_0 (rc : Nat → Nat → Int32 → Int32 → Int32 → Int32 → Int32 → Int32 → Int32 → Int32 → am_M → Option (Int32)) (r0 : Nat) (x1 : Int32) (x2 : Int32) (x3 : Int32) (x4 : Int32) (x5 : Int32) (x6 : Int32) (s0 : Int32) (s1 : Int32) (M : am_M) : Option (Int32) := (q_gti M r0 10 34).bind (fun t11 => if t11 ≤ x5 then ((q_gtr M r0 10 20).bind (fun t211 => (q_ldi M t211 x1).bind (fun t215 => if t215 = (1 : Int32) then (some x3) else ((q_gtr M r0 10 20).bind (fun t227 => (q_ldi M t227 x1).bind (fun t231 => if t231 = 0 then (rc 11 0 0 0 0 0 0 0 (1 : Int32) x4 M) else (rc 11 0 0 0 0 0 0 0 (0 : Int32) x4 M))))))) else ((q_gtr M r0 10 43).bind (fun t18 => (q_ldi M t18 x5).bind (fun t23 => if t23 = x2 then ((q_gtr M r0 10 20).bind (fun t32 => (q_ldi M t32 x1).bind (fun t36 => if t36 = 0 then (if x4 = 0 then ((q_gtr M r0 10 40).bind (fun t46 => (q_ldi M t46 x5).bind (fun t51 => (q_gtr M r0 10 21).bind (fun t53 => (q_ldi M t53 x1).bind (fun t57 => if ((t51 >>> (t57 &&& 31)) &&& (1 : Int32)) = (1 : Int32) then (rc 1 r0 x1 x2 x3 0 x5 0 0 0 M) else (rc 2 r0 x1 x2 x3 0 x5 0 (0 : Int32) 0 M)))))) else (rc 1 r0 x1 x2 x3 0 x5 0 0 0 M)) else (rc 3 r0 x1 x2 x3 x4 x5 0 0 0 M)))) else (rc 10 r0 x1 x2 x3 x4 x5 0 0 0 M)))))
def a_Model_holds_1 (rc : Nat → Nat → Int32 → Int32 → Int32 → Int32 → Int32 → Int32 → Int32 → Int32 → am_M → Option (Int32)) (r0 : Nat) (x1 : Int32) (x2 : Int32) (x3 : Int32) (x4 : Int32) (x5 : Int32) (x6 : Int32) (s0 : Int32) (s1 : Int32) (M : am_M) : Option (Int32) := rc 2 r0 x1 x2 x3 0 x5 0 (1 : Int32) 0 M
def a_Model_holds_2 (rc : Nat → Nat → Int32 → Int32 → Int32 → Int32 → Int32 → Int32 → Int32 → Int32 → am_M → Option (Int32)) (r0 : Nat) (x1 : Int32) (x2 : Int32) (x3 : Int32) (x4 : Int32) (x5 : Int32) (x6 : Int32) (s0 : Int32) (s1 : Int32) (M : am_M) : Option (Int32) := rc 3 r0 x1 x2 x3 s0 x5 0 0 0 M
def a_Model_holds_3 (rc : Nat → Nat → Int32 → Int32 → Int32 → Int32 → Int32 → Int32 → Int32 → Int32 → am_M → Option (Int32)) (r0 : Nat) (x1 : Int32) (x2 : Int32) (x3 : Int32) (x4 : Int32) (x5 : Int32) (x6 : Int32) (s0 : Int32) (s1 : Int32) (M : am_M) : Option (Int32) := (q_gtr M r0 10 20).bind (fun t73 => (q_ldi M t73 x1).bind (fun t77 => if t77 = (2 : Int32) then (if x4 = 0 then ((q_gtr M r0 10 37).bind (fun t88 => (q_ldi M t88 x5).bind (fun t93 => (q_gtr M r0 10 21).bind (fun t98 => (q_ldi M t98 x1).bind (fun t102 => if (((1440 : Int32) * t102) + (1440 : Int32)) ≤ t93 then (rc 5 r0 x1 x2 x3 0 x5 0 0 0 M) else ((q_gtr M r0 10 38).bind (fun t112 => (q_ldi M t112 x5).bind (fun t117 => (q_gtr M r0 10 21).bind (fun t122 => (q_ldi M t122 x1).bind (fun t126 => if t117 ≤ ((1440 : Int32) * t126) then (rc 5 r0 x1 x2 x3 0 x5 0 0 0 M) else (rc 4 r0 x1 x2 x3 0 x5 0 0 0 M))))))))))) else (rc 4 r0 x1 x2 x3 0 x5 0 0 0 M)) else (rc 7 r0 x1 x2 x3 x4 x5 0 0 0 M)))
def a_Model_holds_4 (rc : Nat → Nat → Int32 → Int32 → Int32 → Int32 → Int32 → Int32 → Int32 → Int32 → am_M → Option (Int32)) (r0 : Nat) (x1 : Int32) (x2 : Int32) (x3 : Int32) (x4 : Int32) (x5 : Int32) (x6 : Int32) (s0 : Int32) (s1 : Int32) (M : am_M) : Option (Int32) := rc 6 r0 x1 x2 x3 0 x5 0 (1 : Int32) 0 M
def a_Model_holds_5 (rc : Nat → Nat → Int32 → Int32 → Int32 → Int32 → Int32 → Int32 → Int32 → Int32 → am_M → Option (Int32)) (r0 : Nat) (x1 : Int32) (x2 : Int32) (x3 : Int32) (x4 : Int32) (x5 : Int32) (x6 : Int32) (s0 : Int32) (s1 : Int32) (M : am_M) : Option (Int32) := rc 6 r0 x1 x2 x3 0 x5 0 (0 : Int32) 0 M
def a_Model_holds_6 (rc : Nat → Nat → Int32 → Int32 → Int32 → Int32 → Int32 → Int32 → Int32 → Int32 → am_M → Option (Int32)) (r0 : Nat) (x1 : Int32) (x2 : Int32) (x3 : Int32) (x4 : Int32) (x5 : Int32) (x6 : Int32) (s0 : Int32) (s1 : Int32) (M : am_M) : Option (Int32) := rc 7 r0 x1 x2 x3 s0 x5 0 0 0 M
def a_Model_holds_7 (rc : Nat → Nat → Int32 → Int32 → Int32 → Int32 → Int32 → Int32 → Int32 → Int32 → am_M → Option (Int32)) (r0 : Nat) (x1 : Int32) (x2 : Int32) (x3 : Int32) (x4 : Int32) (x5 : Int32) (x6 : Int32) (s0 : Int32) (s1 : Int32) (M : am_M) : Option (Int32) := rc 8 r0 x1 x2 x3 x4 x5 (0 : Int32) 0 0 M
def a_Model_holds_8 (rc : Nat → Nat → Int32 → Int32 → Int32 → Int32 → Int32 → Int32 → Int32 → Int32 → am_M → Option (Int32)) (r0 : Nat) (x1 : Int32) (x2 : Int32) (x3 : Int32) (x4 : Int32) (x5 : Int32) (x6 : Int32) (s0 : Int32) (s1 : Int32) (M : am_M) : Option (Int32) := (q_gtr M r0 10 36).bind (fun t144 => (q_ldi M t144 x5).bind (fun t149 => if t149 ≤ x6 then (rc 10 r0 x1 x2 x3 x4 x5 0 0 0 M) else ((q_gtr M r0 10 20).bind (fun t154 => (q_ldi M t154 x1).bind (fun t158 => if t158 = (1 : Int32) then ((q_gtr M r0 10 8).bind (fun t165 => (q_gtr M r0 10 35).bind (fun t169 => (q_ldi M t169 (((8 : Int32) * x5) + x6)).bind (fun t180 => (q_ldi M t165 t180).bind (fun t181 => (q_gtr M r0 10 21).bind (fun t183 => (q_ldi M t183 x1).bind (fun t187 => if t181 = t187 then (rc 9 r0 x1 x2 0 x4 x5 x6 (1 : Int32) x3 M) else (rc 9 r0 x1 x2 0 x4 x5 x6 (0 : Int32) x3 M)))))))) else (rc 10 r0 x1 x2 x3 x4 x5 0 0 0 M))))))
def a_Model_holds_9 (rc : Nat → Nat → Int32 → Int32 → Int32 → Int32 → Int32 → Int32 → Int32 → Int32 → am_M → Option (Int32)) (r0 : Nat) (x1 : Int32) (x2 : Int32) (x3 : Int32) (x4 : Int32) (x5 : Int32) (x6 : Int32) (s0 : Int32) (s1 : Int32) (M : am_M) : Option (Int32) := rc 8 r0 x1 x2 (s1 + s0) x4 x5 (x6 + (1 : Int32)) 0 0 M
def a_Model_holds_10 (rc : Nat → Nat → Int32 → Int32 → Int32 → Int32 → Int32 → Int32 → Int32 → Int32 → am_M → Option (Int32)) (r0 : Nat) (x1 : Int32) (x2 : Int32) (x3 : Int32) (x4 : Int32) (x5 : Int32) (x6 : Int32) (s0 : Int32) (s1 : Int32) (M : am_M) : Option (Int32) := rc 0 r0 x1 x2 x3 x4 (x5 + (1 : Int32)) 0 0 0 M
def a_Model_holds_11 (rc : Nat → Nat → Int32 → Int32 → Int32 → Int32 → Int32 → Int32 → Int32 → Int32 → am_M → Option (Int32)) (r0 : Nat) (x1 : Int32) (x2 : Int32) (x3 : Int32) (x4 : Int32) (x5 : Int32) (x6 : Int32) (s0 : Int32) (s1 : Int32) (M : am_M) : Option (Int32) := if s1 = s0 then (some (1 : Int32)) else (some (0 : Int32))
def g_Model_holds : Nat → Nat → Nat → Int32 → Int32 → Int32 → Int32 → Int32 → Int32 → Int32 → Int32 → am_M → Option (Int32)
  | 0, _, _, _, _, _, _, _, _, _, _, _ => none
  | F + 1, 0, r0, x1, x2, x3, x4, x5, x6, s0, s1, M => a_Model_holds_0 (g_Model_holds F) r0 x1 x2 x3 x4 x5 x6 s0 s1 M
  | F + 1, 1, r0, x1, x2, x3, x4, x5, x6, s0, s1, M => a_Model_holds_1 (g_Model_holds F) r0 x1 x2 x3 x4 x5 x6 s0 s1 M
  | F + 1, 2, r0, x1, x2, x3, x4, x5, x6, s0, s1, M => a_Model_holds_2 (g_Model_holds F) r0 x1 x2 x3 x4 x5 x6 s0 s1 M
  | F + 1, 3, r0, x1, x2, x3, x4, x5, x6, s0, s1, M => a_Model_holds_3 (g_Model_holds F) r0 x1 x2 x3 x4 x5 x6 s0 s1 M
  | F + 1, 4, r0, x1, x2, x3, x4, x5, x6, s0, s1, M => a_Model_holds_4 (g_Model_holds F) r0 x1 x2 x3 x4 x5 x6 s0 s1 M
  | F + 1, 5, r0, x1, x2, x3, x4, x5, x6, s0, s1, M => a_Model_holds_5 (g_Model_holds F) r0 x1 x2 x3 x4 x5 x6 s0 s1 M
  | F + 1, 6, r0, x1, x2, x3, x4, x5, x6, s0, s1, M => a_Model_holds_6 (g_Model_holds F) r0 x1 x2 x3 x4 x5 x6 s0 s1 M
  | F + 1, 7, r0, x1, x2, x3, x4, x5, x6, s0, s1, M => a_Model_holds_7 (g_Model_holds F) r0 x1 x2 x3 x4 x5 x6 s0 s1 M
  | F + 1, 8, r0, x1, x2, x3, x4, x5, x6, s0, s1, M => a_Model_holds_8 (g_Model_holds F) r0 x1 x2 x3 x4 x5 x6 s0 s1 M
  | F + 1, 9, r0, x1, x2, x3, x4, x5, x6, s0, s1, M => a_Model_holds_9 (g_Model_holds F) r0 x1 x2 x3 x4 x5 x6 s0 s1 M
  | F + 1, 10, r0, x1, x2, x3, x4, x5, x6, s0, s1, M => a_Model_holds_10 (g_Model_holds F) r0 x1 x2 x3 x4 x5 x6 s0 s1 M
  | F + 1, 11, r0, x1, x2, x3, x4, x5, x6, s0, s1, M => a_Model_holds_11 (g_Model_holds F) r0 x1 x2 x3 x4 x5 x6 s0 s1 M
  | _ + 1, _ + 12, _, _, _, _, _, _, _, _, _, _ => none
def e_Model_holds (rc : Nat → Nat → Int32 → Int32 → Int32 → Int32 → Int32 → Int32 → Int32 → Int32 → am_M → Option (Int32)) (M : am_M) (a0 : Nat) (a1 : Int32) (a2 : Int32) : Option (Int32) := rc 0 a0 a1 a2 (0 : Int32) (0 : Int32) (0 : Int32) 0 0 0 M
def f_Model_holds (M : am_M) (a0 : Nat) (a1 : Int32) (a2 : Int32) : Option (Int32) := e_Model_holds (g_Model_holds 1000000000) M a0 a1 a2
set_option maxHeartbeats 4000000 in
theorem s_Model_holds_0 {rc : Nat → Nat → Int32 → Int32 → Int32 → Int32 → Int32 → Int32 → Int32 → Int32 → am_M → Option (Int32)} {res : Int32} (ih_0 : ∀ (r0 : Nat) (x1 : Int32) (x2 : Int32) (x3 : Int32) (x4 : Int32) (x5 : Int32) (x6 : Int32) (s0 : Int32) (s1 : Int32) (M : am_M), rc 0 r0 x1 x2 x3 x4 x5 x6 s0 s1 M = some res → AW u_Model_holds R_Model_holds 0 0 8 [(0, .ref r0), (1, .int x1), (2, .int x2), (3, .int x3), (4, .int x4), (5, .int x5)] [] M (fun r M2 => r = .inl (some (.int res)) ∧ M2 = M)) (ih_1 : ∀ (r0 : Nat) (x1 : Int32) (x2 : Int32) (x3 : Int32) (x4 : Int32) (x5 : Int32) (x6 : Int32) (s0 : Int32) (s1 : Int32) (M : am_M), rc 1 r0 x1 x2 x3 x4 x5 x6 s0 s1 M = some res → AW u_Model_holds R_Model_holds 0 0 65 [(0, .ref r0), (1, .int x1), (2, .int x2), (3, .int x3), (5, .int x5)] [] M (fun r M2 => r = .inl (some (.int res)) ∧ M2 = M)) (ih_2 : ∀ (r0 : Nat) (x1 : Int32) (x2 : Int32) (x3 : Int32) (x4 : Int32) (x5 : Int32) (x6 : Int32) (s0 : Int32) (s1 : Int32) (M : am_M), rc 2 r0 x1 x2 x3 x4 x5 x6 s0 s1 M = some res → AW u_Model_holds R_Model_holds 0 0 70 [(0, .ref r0), (1, .int x1), (2, .int x2), (3, .int x3), (5, .int x5)] [.int s0] M (fun r M2 => r = .inl (some (.int res)) ∧ M2 = M)) (ih_3 : ∀ (r0 : Nat) (x1 : Int32) (x2 : Int32) (x3 : Int32) (x4 : Int32) (x5 : Int32) (x6 : Int32) (s0 : Int32) (s1 : Int32) (M : am_M), rc 3 r0 x1 x2 x3 x4 x5 x6 s0 s1 M = some res → AW u_Model_holds R_Model_holds 0 0 72 [(0, .ref r0), (1, .int x1), (2, .int x2), (3, .int x3), (4, .int x4), (5, .int x5)] [] M (fun r M2 => r = .inl (some (.int res)) ∧ M2 = M)) (ih_4 : ∀ (r0 : Nat) (x1 : Int32) (x2 : Int32) (x3 : Int32) (x4 : Int32) (x5 : Int32) (x6 : Int32) (s0 : Int32) (s1 : Int32) (M : am_M), rc 4 r0 x1 x2 x3 x4 x5 x6 s0 s1 M = some res → AW u_Model_holds R_Model_holds 0 0 131 [(0, .ref r0), (1, .int x1), (2, .int x2), (3, .int x3), (5, .int x5)] [] M (fun r M2 => r = .inl (some (.int res)) ∧ M2 = M)) (ih_5 : ∀ (r0 : Nat) (x1 : Int32) (x2 : Int32) (x3 : Int32) (x4 : Int32) (x5 : Int32) (x6 : Int32) (s0 : Int32) (s1 : Int32) (M : am_M), rc 5 r0 x1 x2 x3 x4 x5 x6 s0 s1 M = some res → AW u_Model_holds R_Model_holds 0 0 135 [(0, .ref r0), (1, .int x1), (2, .int x2), (3, .int x3), (5, .int x5)] [] M (fun r M2 => r = .inl (some (.int res)) ∧ M2 = M)) (ih_6 : ∀ (r0 : Nat) (x1 : Int32) (x2 : Int32) (x3 : Int32) (x4 : Int32) (x5 : Int32) (x6 : Int32) (s0 : Int32) (s1 : Int32) (M : am_M), rc 6 r0 x1 x2 x3 x4 x5 x6 s0 s1 M = some res → AW u_Model_holds R_Model_holds 0 0 136 [(0, .ref r0), (1, .int x1), (2, .int x2), (3, .int x3), (5, .int x5)] [.int s0] M (fun r M2 => r = .inl (some (.int res)) ∧ M2 = M)) (ih_7 : ∀ (r0 : Nat) (x1 : Int32) (x2 : Int32) (x3 : Int32) (x4 : Int32) (x5 : Int32) (x6 : Int32) (s0 : Int32) (s1 : Int32) (M : am_M), rc 7 r0 x1 x2 x3 x4 x5 x6 s0 s1 M = some res → AW u_Model_holds R_Model_holds 0 0 138 [(0, .ref r0), (1, .int x1), (2, .int x2), (3, .int x3), (4, .int x4), (5, .int x5)] [] M (fun r M2 => r = .inl (some (.int res)) ∧ M2 = M)) (ih_8 : ∀ (r0 : Nat) (x1 : Int32) (x2 : Int32) (x3 : Int32) (x4 : Int32) (x5 : Int32) (x6 : Int32) (s0 : Int32) (s1 : Int32) (M : am_M), rc 8 r0 x1 x2 x3 x4 x5 x6 s0 s1 M = some res → AW u_Model_holds R_Model_holds 0 0 141 [(0, .ref r0), (1, .int x1), (2, .int x2), (3, .int x3), (4, .int x4), (5, .int x5), (6, .int x6)] [] M (fun r M2 => r = .inl (some (.int res)) ∧ M2 = M)) (ih_9 : ∀ (r0 : Nat) (x1 : Int32) (x2 : Int32) (x3 : Int32) (x4 : Int32) (x5 : Int32) (x6 : Int32) (s0 : Int32) (s1 : Int32) (M : am_M), rc 9 r0 x1 x2 x3 x4 x5 x6 s0 s1 M = some res → AW u_Model_holds R_Model_holds 0 0 196 [(0, .ref r0), (1, .int x1), (2, .int x2), (4, .int x4), (5, .int x5), (6, .int x6)] [.int s0, .int s1] M (fun r M2 => r = .inl (some (.int res)) ∧ M2 = M)) (ih_10 : ∀ (r0 : Nat) (x1 : Int32) (x2 : Int32) (x3 : Int32) (x4 : Int32) (x5 : Int32) (x6 : Int32) (s0 : Int32) (s1 : Int32) (M : am_M), rc 10 r0 x1 x2 x3 x4 x5 x6 s0 s1 M = some res → AW u_Model_holds R_Model_holds 0 0 204 [(0, .ref r0), (1, .int x1), (2, .int x2), (3, .int x3), (4, .int x4), (5, .int x5)] [] M (fun r M2 => r = .inl (some (.int res)) ∧ M2 = M)) (ih_11 : ∀ (r0 : Nat) (x1 : Int32) (x2 : Int32) (x3 : Int32) (x4 : Int32) (x5 : Int32) (x6 : Int32) (s0 : Int32) (s1 : Int32) (M : am_M), rc 11 r0 x1 x2 x3 x4 x5 x6 s0 s1 M = some res → AW u_Model_holds R_Model_holds 0 0 240 [] [.int s0, .int s1] M (fun r M2 => r = .inl (some (.int res)) ∧ M2 = M)) : ∀ (r0 : Nat) (x1 : Int32) (x2 : Int32) (x3 : Int32) (x4 : Int32) (x5 : Int32) (x6 : Int32) (s0 : Int32) (s1 : Int32) (M : am_M), a_Model_holds_0 rc r0 x1 x2 x3 x4 x5 x6 s0 s1 M = some res → AW u_Model_holds R_Model_holds 0 0 8 [(0, .ref r0), (1, .int x1), (2, .int x2), (3, .int x3), (4, .int x4), (5, .int x5)] [] M (fun r M2 => r = .inl (some (.int res)) ∧ M2 = M) := by
  intro r0 x1 x2 x3 x4 x5 x6 s0 s1 M h
  unfold a_Model_holds_0 at h
  refine aw_iload d_Model_holds_8 rfl ?_
  refine aw_aload_n d_Model_holds_10 rfl rfl ?_
  obtain ⟨t11, e_t11, h⟩ := q_bind h
  refine aw_gti d_Model_holds_11 fl_Model_102 (Or.inl rfl) e_t11 ?_
  refine aw_icmp_ge (tgt := 210) d_Model_holds_14 (by decide) (fun hc => ?_) (fun hc => ?_)
  · rw [if_pos hc] at h
    refine aw_aload_n d_Model_holds_210 rfl rfl ?_
    obtain ⟨t211, e_t211, h⟩ := q_bind h
    refine aw_gtr d_Model_holds_211 fl_Model_69 (Or.inr ⟨_, rfl⟩) e_t211 ?_
    refine aw_iload_n d_Model_holds_214 rfl rfl ?_
    obtain ⟨t215, e_t215, h⟩ := q_bind h
    refine aw_ldi d_Model_holds_215 e_t215 ?_
    refine aw_iconst (v := 1) d_Model_holds_216 (by decide) ?_
    refine aw_icmp_ne (tgt := 224) d_Model_holds_217 (by decide) (fun hc => ?_) (fun hc => ?_)
    · rw [if_neg hc] at h
      refine aw_iload d_Model_holds_224 rfl ?_
      refine aw_aload_n d_Model_holds_226 rfl rfl ?_
      obtain ⟨t227, e_t227, h⟩ := q_bind h
      refine aw_gtr d_Model_holds_227 fl_Model_69 (Or.inr ⟨_, rfl⟩) e_t227 ?_
      refine aw_iload_n d_Model_holds_230 rfl rfl ?_
      obtain ⟨t231, e_t231, h⟩ := q_bind h
      refine aw_ldi d_Model_holds_231 e_t231 ?_
      refine aw_if_ne (tgt := 239) d_Model_holds_232 (by decide) (fun hc => ?_) (fun hc => ?_)
      · rw [if_neg hc] at h
        refine aw_iconst (v := 0) d_Model_holds_239 (by decide) ?_
        exact aw_pick [] rfl (ih_11 _ _ _ _ _ _ _ _ _ _ h)
      · rw [if_pos hc] at h
        refine aw_iconst (v := 1) d_Model_holds_235 (by decide) ?_
        refine aw_goto (tgt := 240) d_Model_holds_236 (by decide) ?_
        exact aw_pick [] rfl (ih_11 _ _ _ _ _ _ _ _ _ _ h)
    · rw [if_pos hc] at h
      refine aw_iload_n d_Model_holds_220 rfl rfl ?_
      refine aw_goto (tgt := 248) d_Model_holds_221 (by decide) ?_
      cases h
      exact aw_ireturn d_Model_holds_248 rfl (Nat.le_of_ble_eq_true rfl) (Nat.le_of_ble_eq_true rfl) ⟨rfl, rfl⟩
  · rw [if_neg hc] at h
    refine aw_aload_n d_Model_holds_17 rfl rfl ?_
    obtain ⟨t18, e_t18, h⟩ := q_bind h
    refine aw_gtr d_Model_holds_18 fl_Model_127 (Or.inr ⟨_, rfl⟩) e_t18 ?_
    refine aw_iload d_Model_holds_21 rfl ?_
    obtain ⟨t23, e_t23, h⟩ := q_bind h
    refine aw_ldi d_Model_holds_23 e_t23 ?_
    refine aw_iload_n d_Model_holds_24 rfl rfl ?_
    refine aw_icmp_eq (tgt := 31) d_Model_holds_25 (by decide) (fun hc => ?_) (fun hc => ?_)
    · rw [if_pos hc] at h
      refine aw_aload_n d_Model_holds_31 rfl rfl ?_
      obtain ⟨t32, e_t32, h⟩ := q_bind h
      refine aw_gtr d_Model_holds_32 fl_Model_69 (Or.inr ⟨_, rfl⟩) e_t32 ?_
      refine aw_iload_n d_Model_holds_35 rfl rfl ?_
      obtain ⟨t36, e_t36, h⟩ := q_bind h
      refine aw_ldi d_Model_holds_36 e_t36 ?_
      refine aw_if_ne (tgt := 72) d_Model_holds_37 (by decide) (fun hc => ?_) (fun hc => ?_)
      · rw [if_neg hc] at h
        exact aw_pick [0, 1, 2, 3, 4, 5] rfl (ih_3 _ _ _ _ _ _ _ _ _ _ h)
      · rw [if_pos hc] at h
        refine aw_iload d_Model_holds_40 rfl ?_
        refine aw_if_ne (tgt := 65) d_Model_holds_42 (by decide) (fun hc => ?_) (fun hc => ?_)
        · rw [if_neg hc] at h
          exact aw_pick [0, 1, 2, 3, 5] rfl (ih_1 _ _ _ _ _ _ _ _ _ _ h)
        · rw [if_pos hc] at h
          refine aw_aload_n d_Model_holds_45 rfl rfl ?_
          obtain ⟨t46, e_t46, h⟩ := q_bind h
          refine aw_gtr d_Model_holds_46 fl_Model_121 (Or.inr ⟨_, rfl⟩) e_t46 ?_
          refine aw_iload d_Model_holds_49 rfl ?_
          obtain ⟨t51, e_t51, h⟩ := q_bind h
          refine aw_ldi d_Model_holds_51 e_t51 ?_
          refine aw_aload_n d_Model_holds_52 rfl rfl ?_
          obtain ⟨t53, e_t53, h⟩ := q_bind h
          refine aw_gtr d_Model_holds_53 fl_Model_72 (Or.inr ⟨_, rfl⟩) e_t53 ?_
          refine aw_iload_n d_Model_holds_56 rfl rfl ?_
          obtain ⟨t57, e_t57, h⟩ := q_bind h
          refine aw_ldi d_Model_holds_57 e_t57 ?_
          refine aw_ishr d_Model_holds_58 ?_
          refine aw_iconst (v := 1) d_Model_holds_59 (by decide) ?_
          refine aw_iand d_Model_holds_60 ?_
          refine aw_iconst (v := 1) d_Model_holds_61 (by decide) ?_
          refine aw_icmp_ne (tgt := 69) d_Model_holds_62 (by decide) (fun hc => ?_) (fun hc => ?_)
          · rw [if_neg hc] at h
            refine aw_iconst (v := 0) d_Model_holds_69 (by decide) ?_
            exact aw_pick [0, 1, 2, 3, 5] rfl (ih_2 _ _ _ _ _ _ _ _ _ _ h)
          · rw [if_pos hc] at h
            exact aw_pick [0, 1, 2, 3, 5] rfl (ih_1 _ _ _ _ _ _ _ _ _ _ h)
    · rw [if_neg hc] at h
      refine aw_goto (tgt := 204) d_Model_holds_28 (by decide) ?_
      exact aw_pick [0, 1, 2, 3, 4, 5] rfl (ih_10 _ _ _ _ _ _ _ _ _ _ h)
set_option maxHeartbeats 4000000 in
theorem s_Model_holds_1 {rc : Nat → Nat → Int32 → Int32 → Int32 → Int32 → Int32 → Int32 → Int32 → Int32 → am_M → Option (Int32)} {res : Int32} (ih_0 : ∀ (r0 : Nat) (x1 : Int32) (x2 : Int32) (x3 : Int32) (x4 : Int32) (x5 : Int32) (x6 : Int32) (s0 : Int32) (s1 : Int32) (M : am_M), rc 0 r0 x1 x2 x3 x4 x5 x6 s0 s1 M = some res → AW u_Model_holds R_Model_holds 0 0 8 [(0, .ref r0), (1, .int x1), (2, .int x2), (3, .int x3), (4, .int x4), (5, .int x5)] [] M (fun r M2 => r = .inl (some (.int res)) ∧ M2 = M)) (ih_1 : ∀ (r0 : Nat) (x1 : Int32) (x2 : Int32) (x3 : Int32) (x4 : Int32) (x5 : Int32) (x6 : Int32) (s0 : Int32) (s1 : Int32) (M : am_M), rc 1 r0 x1 x2 x3 x4 x5 x6 s0 s1 M = some res → AW u_Model_holds R_Model_holds 0 0 65 [(0, .ref r0), (1, .int x1), (2, .int x2), (3, .int x3), (5, .int x5)] [] M (fun r M2 => r = .inl (some (.int res)) ∧ M2 = M)) (ih_2 : ∀ (r0 : Nat) (x1 : Int32) (x2 : Int32) (x3 : Int32) (x4 : Int32) (x5 : Int32) (x6 : Int32) (s0 : Int32) (s1 : Int32) (M : am_M), rc 2 r0 x1 x2 x3 x4 x5 x6 s0 s1 M = some res → AW u_Model_holds R_Model_holds 0 0 70 [(0, .ref r0), (1, .int x1), (2, .int x2), (3, .int x3), (5, .int x5)] [.int s0] M (fun r M2 => r = .inl (some (.int res)) ∧ M2 = M)) (ih_3 : ∀ (r0 : Nat) (x1 : Int32) (x2 : Int32) (x3 : Int32) (x4 : Int32) (x5 : Int32) (x6 : Int32) (s0 : Int32) (s1 : Int32) (M : am_M), rc 3 r0 x1 x2 x3 x4 x5 x6 s0 s1 M = some res → AW u_Model_holds R_Model_holds 0 0 72 [(0, .ref r0), (1, .int x1), (2, .int x2), (3, .int x3), (4, .int x4), (5, .int x5)] [] M (fun r M2 => r = .inl (some (.int res)) ∧ M2 = M)) (ih_4 : ∀ (r0 : Nat) (x1 : Int32) (x2 : Int32) (x3 : Int32) (x4 : Int32) (x5 : Int32) (x6 : Int32) (s0 : Int32) (s1 : Int32) (M : am_M), rc 4 r0 x1 x2 x3 x4 x5 x6 s0 s1 M = some res → AW u_Model_holds R_Model_holds 0 0 131 [(0, .ref r0), (1, .int x1), (2, .int x2), (3, .int x3), (5, .int x5)] [] M (fun r M2 => r = .inl (some (.int res)) ∧ M2 = M)) (ih_5 : ∀ (r0 : Nat) (x1 : Int32) (x2 : Int32) (x3 : Int32) (x4 : Int32) (x5 : Int32) (x6 : Int32) (s0 : Int32) (s1 : Int32) (M : am_M), rc 5 r0 x1 x2 x3 x4 x5 x6 s0 s1 M = some res → AW u_Model_holds R_Model_holds 0 0 135 [(0, .ref r0), (1, .int x1), (2, .int x2), (3, .int x3), (5, .int x5)] [] M (fun r M2 => r = .inl (some (.int res)) ∧ M2 = M)) (ih_6 : ∀ (r0 : Nat) (x1 : Int32) (x2 : Int32) (x3 : Int32) (x4 : Int32) (x5 : Int32) (x6 : Int32) (s0 : Int32) (s1 : Int32) (M : am_M), rc 6 r0 x1 x2 x3 x4 x5 x6 s0 s1 M = some res → AW u_Model_holds R_Model_holds 0 0 136 [(0, .ref r0), (1, .int x1), (2, .int x2), (3, .int x3), (5, .int x5)] [.int s0] M (fun r M2 => r = .inl (some (.int res)) ∧ M2 = M)) (ih_7 : ∀ (r0 : Nat) (x1 : Int32) (x2 : Int32) (x3 : Int32) (x4 : Int32) (x5 : Int32) (x6 : Int32) (s0 : Int32) (s1 : Int32) (M : am_M), rc 7 r0 x1 x2 x3 x4 x5 x6 s0 s1 M = some res → AW u_Model_holds R_Model_holds 0 0 138 [(0, .ref r0), (1, .int x1), (2, .int x2), (3, .int x3), (4, .int x4), (5, .int x5)] [] M (fun r M2 => r = .inl (some (.int res)) ∧ M2 = M)) (ih_8 : ∀ (r0 : Nat) (x1 : Int32) (x2 : Int32) (x3 : Int32) (x4 : Int32) (x5 : Int32) (x6 : Int32) (s0 : Int32) (s1 : Int32) (M : am_M), rc 8 r0 x1 x2 x3 x4 x5 x6 s0 s1 M = some res → AW u_Model_holds R_Model_holds 0 0 141 [(0, .ref r0), (1, .int x1), (2, .int x2), (3, .int x3), (4, .int x4), (5, .int x5), (6, .int x6)] [] M (fun r M2 => r = .inl (some (.int res)) ∧ M2 = M)) (ih_9 : ∀ (r0 : Nat) (x1 : Int32) (x2 : Int32) (x3 : Int32) (x4 : Int32) (x5 : Int32) (x6 : Int32) (s0 : Int32) (s1 : Int32) (M : am_M), rc 9 r0 x1 x2 x3 x4 x5 x6 s0 s1 M = some res → AW u_Model_holds R_Model_holds 0 0 196 [(0, .ref r0), (1, .int x1), (2, .int x2), (4, .int x4), (5, .int x5), (6, .int x6)] [.int s0, .int s1] M (fun r M2 => r = .inl (some (.int res)) ∧ M2 = M)) (ih_10 : ∀ (r0 : Nat) (x1 : Int32) (x2 : Int32) (x3 : Int32) (x4 : Int32) (x5 : Int32) (x6 : Int32) (s0 : Int32) (s1 : Int32) (M : am_M), rc 10 r0 x1 x2 x3 x4 x5 x6 s0 s1 M = some res → AW u_Model_holds R_Model_holds 0 0 204 [(0, .ref r0), (1, .int x1), (2, .int x2), (3, .int x3), (4, .int x4), (5, .int x5)] [] M (fun r M2 => r = .inl (some (.int res)) ∧ M2 = M)) (ih_11 : ∀ (r0 : Nat) (x1 : Int32) (x2 : Int32) (x3 : Int32) (x4 : Int32) (x5 : Int32) (x6 : Int32) (s0 : Int32) (s1 : Int32) (M : am_M), rc 11 r0 x1 x2 x3 x4 x5 x6 s0 s1 M = some res → AW u_Model_holds R_Model_holds 0 0 240 [] [.int s0, .int s1] M (fun r M2 => r = .inl (some (.int res)) ∧ M2 = M)) : ∀ (r0 : Nat) (x1 : Int32) (x2 : Int32) (x3 : Int32) (x4 : Int32) (x5 : Int32) (x6 : Int32) (s0 : Int32) (s1 : Int32) (M : am_M), a_Model_holds_1 rc r0 x1 x2 x3 x4 x5 x6 s0 s1 M = some res → AW u_Model_holds R_Model_holds 0 0 65 [(0, .ref r0), (1, .int x1), (2, .int x2), (3, .int x3), (5, .int x5)] [] M (fun r M2 => r = .inl (some (.int res)) ∧ M2 = M) := by
  intro r0 x1 x2 x3 x4 x5 x6 s0 s1 M h
  unfold a_Model_holds_1 at h
  refine aw_iconst (v := 1) d_Model_holds_65 (by decide) ?_
  refine aw_goto (tgt := 70) d_Model_holds_66 (by decide) ?_
  exact aw_pick [0, 1, 2, 3, 4] rfl (ih_2 _ _ _ _ _ _ _ _ _ _ h)
set_option maxHeartbeats 4000000 in
theorem s_Model_holds_2 {rc : Nat → Nat → Int32 → Int32 → Int32 → Int32 → Int32 → Int32 → Int32 → Int32 → am_M → Option (Int32)} {res : Int32} (ih_0 : ∀ (r0 : Nat) (x1 : Int32) (x2 : Int32) (x3 : Int32) (x4 : Int32) (x5 : Int32) (x6 : Int32) (s0 : Int32) (s1 : Int32) (M : am_M), rc 0 r0 x1 x2 x3 x4 x5 x6 s0 s1 M = some res → AW u_Model_holds R_Model_holds 0 0 8 [(0, .ref r0), (1, .int x1), (2, .int x2), (3, .int x3), (4, .int x4), (5, .int x5)] [] M (fun r M2 => r = .inl (some (.int res)) ∧ M2 = M)) (ih_1 : ∀ (r0 : Nat) (x1 : Int32) (x2 : Int32) (x3 : Int32) (x4 : Int32) (x5 : Int32) (x6 : Int32) (s0 : Int32) (s1 : Int32) (M : am_M), rc 1 r0 x1 x2 x3 x4 x5 x6 s0 s1 M = some res → AW u_Model_holds R_Model_holds 0 0 65 [(0, .ref r0), (1, .int x1), (2, .int x2), (3, .int x3), (5, .int x5)] [] M (fun r M2 => r = .inl (some (.int res)) ∧ M2 = M)) (ih_2 : ∀ (r0 : Nat) (x1 : Int32) (x2 : Int32) (x3 : Int32) (x4 : Int32) (x5 : Int32) (x6 : Int32) (s0 : Int32) (s1 : Int32) (M : am_M), rc 2 r0 x1 x2 x3 x4 x5 x6 s0 s1 M = some res → AW u_Model_holds R_Model_holds 0 0 70 [(0, .ref r0), (1, .int x1), (2, .int x2), (3, .int x3), (5, .int x5)] [.int s0] M (fun r M2 => r = .inl (some (.int res)) ∧ M2 = M)) (ih_3 : ∀ (r0 : Nat) (x1 : Int32) (x2 : Int32) (x3 : Int32) (x4 : Int32) (x5 : Int32) (x6 : Int32) (s0 : Int32) (s1 : Int32) (M : am_M), rc 3 r0 x1 x2 x3 x4 x5 x6 s0 s1 M = some res → AW u_Model_holds R_Model_holds 0 0 72 [(0, .ref r0), (1, .int x1), (2, .int x2), (3, .int x3), (4, .int x4), (5, .int x5)] [] M (fun r M2 => r = .inl (some (.int res)) ∧ M2 = M)) (ih_4 : ∀ (r0 : Nat) (x1 : Int32) (x2 : Int32) (x3 : Int32) (x4 : Int32) (x5 : Int32) (x6 : Int32) (s0 : Int32) (s1 : Int32) (M : am_M), rc 4 r0 x1 x2 x3 x4 x5 x6 s0 s1 M = some res → AW u_Model_holds R_Model_holds 0 0 131 [(0, .ref r0), (1, .int x1), (2, .int x2), (3, .int x3), (5, .int x5)] [] M (fun r M2 => r = .inl (some (.int res)) ∧ M2 = M)) (ih_5 : ∀ (r0 : Nat) (x1 : Int32) (x2 : Int32) (x3 : Int32) (x4 : Int32) (x5 : Int32) (x6 : Int32) (s0 : Int32) (s1 : Int32) (M : am_M), rc 5 r0 x1 x2 x3 x4 x5 x6 s0 s1 M = some res → AW u_Model_holds R_Model_holds 0 0 135 [(0, .ref r0), (1, .int x1), (2, .int x2), (3, .int x3), (5, .int x5)] [] M (fun r M2 => r = .inl (some (.int res)) ∧ M2 = M)) (ih_6 : ∀ (r0 : Nat) (x1 : Int32) (x2 : Int32) (x3 : Int32) (x4 : Int32) (x5 : Int32) (x6 : Int32) (s0 : Int32) (s1 : Int32) (M : am_M), rc 6 r0 x1 x2 x3 x4 x5 x6 s0 s1 M = some res → AW u_Model_holds R_Model_holds 0 0 136 [(0, .ref r0), (1, .int x1), (2, .int x2), (3, .int x3), (5, .int x5)] [.int s0] M (fun r M2 => r = .inl (some (.int res)) ∧ M2 = M)) (ih_7 : ∀ (r0 : Nat) (x1 : Int32) (x2 : Int32) (x3 : Int32) (x4 : Int32) (x5 : Int32) (x6 : Int32) (s0 : Int32) (s1 : Int32) (M : am_M), rc 7 r0 x1 x2 x3 x4 x5 x6 s0 s1 M = some res → AW u_Model_holds R_Model_holds 0 0 138 [(0, .ref r0), (1, .int x1), (2, .int x2), (3, .int x3), (4, .int x4), (5, .int x5)] [] M (fun r M2 => r = .inl (some (.int res)) ∧ M2 = M)) (ih_8 : ∀ (r0 : Nat) (x1 : Int32) (x2 : Int32) (x3 : Int32) (x4 : Int32) (x5 : Int32) (x6 : Int32) (s0 : Int32) (s1 : Int32) (M : am_M), rc 8 r0 x1 x2 x3 x4 x5 x6 s0 s1 M = some res → AW u_Model_holds R_Model_holds 0 0 141 [(0, .ref r0), (1, .int x1), (2, .int x2), (3, .int x3), (4, .int x4), (5, .int x5), (6, .int x6)] [] M (fun r M2 => r = .inl (some (.int res)) ∧ M2 = M)) (ih_9 : ∀ (r0 : Nat) (x1 : Int32) (x2 : Int32) (x3 : Int32) (x4 : Int32) (x5 : Int32) (x6 : Int32) (s0 : Int32) (s1 : Int32) (M : am_M), rc 9 r0 x1 x2 x3 x4 x5 x6 s0 s1 M = some res → AW u_Model_holds R_Model_holds 0 0 196 [(0, .ref r0), (1, .int x1), (2, .int x2), (4, .int x4), (5, .int x5), (6, .int x6)] [.int s0, .int s1] M (fun r M2 => r = .inl (some (.int res)) ∧ M2 = M)) (ih_10 : ∀ (r0 : Nat) (x1 : Int32) (x2 : Int32) (x3 : Int32) (x4 : Int32) (x5 : Int32) (x6 : Int32) (s0 : Int32) (s1 : Int32) (M : am_M), rc 10 r0 x1 x2 x3 x4 x5 x6 s0 s1 M = some res → AW u_Model_holds R_Model_holds 0 0 204 [(0, .ref r0), (1, .int x1), (2, .int x2), (3, .int x3), (4, .int x4), (5, .int x5)] [] M (fun r M2 => r = .inl (some (.int res)) ∧ M2 = M)) (ih_11 : ∀ (r0 : Nat) (x1 : Int32) (x2 : Int32) (x3 : Int32) (x4 : Int32) (x5 : Int32) (x6 : Int32) (s0 : Int32) (s1 : Int32) (M : am_M), rc 11 r0 x1 x2 x3 x4 x5 x6 s0 s1 M = some res → AW u_Model_holds R_Model_holds 0 0 240 [] [.int s0, .int s1] M (fun r M2 => r = .inl (some (.int res)) ∧ M2 = M)) : ∀ (r0 : Nat) (x1 : Int32) (x2 : Int32) (x3 : Int32) (x4 : Int32) (x5 : Int32) (x6 : Int32) (s0 : Int32) (s1 : Int32) (M : am_M), a_Model_holds_2 rc r0 x1 x2 x3 x4 x5 x6 s0 s1 M = some res → AW u_Model_holds R_Model_holds 0 0 70 [(0, .ref r0), (1, .int x1), (2, .int x2), (3, .int x3), (5, .int x5)] [.int s0] M (fun r M2 => r = .inl (some (.int res)) ∧ M2 = M) := by
  intro r0 x1 x2 x3 x4 x5 x6 s0 s1 M h
  unfold a_Model_holds_2 at h
  refine aw_istore (ls' := [(4, .int _), (0, .ref _), (1, .int _), (2, .int _), (3, .int _), (5, .int _)]) d_Model_holds_70 (Nat.le_of_ble_eq_true rfl) rfl ?_
  exact aw_pick [1, 2, 3, 4, 0, 5] rfl (ih_3 _ _ _ _ _ _ _ _ _ _ h)
set_option maxHeartbeats 4000000 in
theorem s_Model_holds_3 {rc : Nat → Nat → Int32 → Int32 → Int32 → Int32 → Int32 → Int32 → Int32 → Int32 → am_M → Option (Int32)} {res : Int32} (ih_0 : ∀ (r0 : Nat) (x1 : Int32) (x2 : Int32) (x3 : Int32) (x4 : Int32) (x5 : Int32) (x6 : Int32) (s0 : Int32) (s1 : Int32) (M : am_M), rc 0 r0 x1 x2 x3 x4 x5 x6 s0 s1 M = some res → AW u_Model_holds R_Model_holds 0 0 8 [(0, .ref r0), (1, .int x1), (2, .int x2), (3, .int x3), (4, .int x4), (5, .int x5)] [] M (fun r M2 => r = .inl (some (.int res)) ∧ M2 = M)) (ih_1 : ∀ (r0 : Nat) (x1 : Int32) (x2 : Int32) (x3 : Int32) (x4 : Int32) (x5 : Int32) (x6 : Int32) (s0 : Int32) (s1 : Int32) (M : am_M), rc 1 r0 x1 x2 x3 x4 x5 x6 s0 s1 M = some res → AW u_Model_holds R_Model_holds 0 0 65 [(0, .ref r0), (1, .int x1), (2, .int x2), (3, .int x3), (5, .int x5)] [] M (fun r M2 => r = .inl (some (.int res)) ∧ M2 = M)) (ih_2 : ∀ (r0 : Nat) (x1 : Int32) (x2 : Int32) (x3 : Int32) (x4 : Int32) (x5 : Int32) (x6 : Int32) (s0 : Int32) (s1 : Int32) (M : am_M), rc 2 r0 x1 x2 x3 x4 x5 x6 s0 s1 M = some res → AW u_Model_holds R_Model_holds 0 0 70 [(0, .ref r0), (1, .int x1), (2, .int x2), (3, .int x3), (5, .int x5)] [.int s0] M (fun r M2 => r = .inl (some (.int res)) ∧ M2 = M)) (ih_3 : ∀ (r0 : Nat) (x1 : Int32) (x2 : Int32) (x3 : Int32) (x4 : Int32) (x5 : Int32) (x6 : Int32) (s0 : Int32) (s1 : Int32) (M : am_M), rc 3 r0 x1 x2 x3 x4 x5 x6 s0 s1 M = some res → AW u_Model_holds R_Model_holds 0 0 72 [(0, .ref r0), (1, .int x1), (2, .int x2), (3, .int x3), (4, .int x4), (5, .int x5)] [] M (fun r M2 => r = .inl (some (.int res)) ∧ M2 = M)) (ih_4 : ∀ (r0 : Nat) (x1 : Int32) (x2 : Int32) (x3 : Int32) (x4 : Int32) (x5 : Int32) (x6 : Int32) (s0 : Int32) (s1 : Int32) (M : am_M), rc 4 r0 x1 x2 x3 x4 x5 x6 s0 s1 M = some res → AW u_Model_holds R_Model_holds 0 0 131 [(0, .ref r0), (1, .int x1), (2, .int x2), (3, .int x3), (5, .int x5)] [] M (fun r M2 => r = .inl (some (.int res)) ∧ M2 = M)) (ih_5 : ∀ (r0 : Nat) (x1 : Int32) (x2 : Int32) (x3 : Int32) (x4 : Int32) (x5 : Int32) (x6 : Int32) (s0 : Int32) (s1 : Int32) (M : am_M), rc 5 r0 x1 x2 x3 x4 x5 x6 s0 s1 M = some res → AW u_Model_holds R_Model_holds 0 0 135 [(0, .ref r0), (1, .int x1), (2, .int x2), (3, .int x3), (5, .int x5)] [] M (fun r M2 => r = .inl (some (.int res)) ∧ M2 = M)) (ih_6 : ∀ (r0 : Nat) (x1 : Int32) (x2 : Int32) (x3 : Int32) (x4 : Int32) (x5 : Int32) (x6 : Int32) (s0 : Int32) (s1 : Int32) (M : am_M), rc 6 r0 x1 x2 x3 x4 x5 x6 s0 s1 M = some res → AW u_Model_holds R_Model_holds 0 0 136 [(0, .ref r0), (1, .int x1), (2, .int x2), (3, .int x3), (5, .int x5)] [.int s0] M (fun r M2 => r = .inl (some (.int res)) ∧ M2 = M)) (ih_7 : ∀ (r0 : Nat) (x1 : Int32) (x2 : Int32) (x3 : Int32) (x4 : Int32) (x5 : Int32) (x6 : Int32) (s0 : Int32) (s1 : Int32) (M : am_M), rc 7 r0 x1 x2 x3 x4 x5 x6 s0 s1 M = some res → AW u_Model_holds R_Model_holds 0 0 138 [(0, .ref r0), (1, .int x1), (2, .int x2), (3, .int x3), (4, .int x4), (5, .int x5)] [] M (fun r M2 => r = .inl (some (.int res)) ∧ M2 = M)) (ih_8 : ∀ (r0 : Nat) (x1 : Int32) (x2 : Int32) (x3 : Int32) (x4 : Int32) (x5 : Int32) (x6 : Int32) (s0 : Int32) (s1 : Int32) (M : am_M), rc 8 r0 x1 x2 x3 x4 x5 x6 s0 s1 M = some res → AW u_Model_holds R_Model_holds 0 0 141 [(0, .ref r0), (1, .int x1), (2, .int x2), (3, .int x3), (4, .int x4), (5, .int x5), (6, .int x6)] [] M (fun r M2 => r = .inl (some (.int res)) ∧ M2 = M)) (ih_9 : ∀ (r0 : Nat) (x1 : Int32) (x2 : Int32) (x3 : Int32) (x4 : Int32) (x5 : Int32) (x6 : Int32) (s0 : Int32) (s1 : Int32) (M : am_M), rc 9 r0 x1 x2 x3 x4 x5 x6 s0 s1 M = some res → AW u_Model_holds R_Model_holds 0 0 196 [(0, .ref r0), (1, .int x1), (2, .int x2), (4, .int x4), (5, .int x5), (6, .int x6)] [.int s0, .int s1] M (fun r M2 => r = .inl (some (.int res)) ∧ M2 = M)) (ih_10 : ∀ (r0 : Nat) (x1 : Int32) (x2 : Int32) (x3 : Int32) (x4 : Int32) (x5 : Int32) (x6 : Int32) (s0 : Int32) (s1 : Int32) (M : am_M), rc 10 r0 x1 x2 x3 x4 x5 x6 s0 s1 M = some res → AW u_Model_holds R_Model_holds 0 0 204 [(0, .ref r0), (1, .int x1), (2, .int x2), (3, .int x3), (4, .int x4), (5, .int x5)] [] M (fun r M2 => r = .inl (some (.int res)) ∧ M2 = M)) (ih_11 : ∀ (r0 : Nat) (x1 : Int32) (x2 : Int32) (x3 : Int32) (x4 : Int32) (x5 : Int32) (x6 : Int32) (s0 : Int32) (s1 : Int32) (M : am_M), rc 11 r0 x1 x2 x3 x4 x5 x6 s0 s1 M = some res → AW u_Model_holds R_Model_holds 0 0 240 [] [.int s0, .int s1] M (fun r M2 => r = .inl (some (.int res)) ∧ M2 = M)) : ∀ (r0 : Nat) (x1 : Int32) (x2 : Int32) (x3 : Int32) (x4 : Int32) (x5 : Int32) (x6 : Int32) (s0 : Int32) (s1 : Int32) (M : am_M), a_Model_holds_3 rc r0 x1 x2 x3 x4 x5 x6 s0 s1 M = some res → AW u_Model_holds R_Model_holds 0 0 72 [(0, .ref r0), (1, .int x1), (2, .int x2), (3, .int x3), (4, .int x4), (5, .int x5)] [] M (fun r M2 => r = .inl (some (.int res)) ∧ M2 = M) := by
  intro r0 x1 x2 x3 x4 x5 x6 s0 s1 M h
  unfold a_Model_holds_3 at h
  refine aw_aload_n d_Model_holds_72 rfl rfl ?_
  obtain ⟨t73, e_t73, h⟩ := q_bind h
  refine aw_gtr d_Model_holds_73 fl_Model_69 (Or.inr ⟨_, rfl⟩) e_t73 ?_
  refine aw_iload_n d_Model_holds_76 rfl rfl ?_
  obtain ⟨t77, e_t77, h⟩ := q_bind h
  refine aw_ldi d_Model_holds_77 e_t77 ?_
  refine aw_iconst (v := 2) d_Model_holds_78 (by decide) ?_
  refine aw_icmp_ne (tgt := 138) d_Model_holds_79 (by decide) (fun hc => ?_) (fun hc => ?_)
  · rw [if_neg hc] at h
    exact aw_pick [0, 1, 2, 3, 4, 5] rfl (ih_7 _ _ _ _ _ _ _ _ _ _ h)
  · rw [if_pos hc] at h
    refine aw_iload d_Model_holds_82 rfl ?_
    refine aw_if_ne (tgt := 131) d_Model_holds_84 (by decide) (fun hc => ?_) (fun hc => ?_)
    · rw [if_neg hc] at h
      exact aw_pick [0, 1, 2, 3, 5] rfl (ih_4 _ _ _ _ _ _ _ _ _ _ h)
    · rw [if_pos hc] at h
      refine aw_aload_n d_Model_holds_87 rfl rfl ?_
      obtain ⟨t88, e_t88, h⟩ := q_bind h
      refine aw_gtr d_Model_holds_88 fl_Model_112 (Or.inr ⟨_, rfl⟩) e_t88 ?_
      refine aw_iload d_Model_holds_91 rfl ?_
      obtain ⟨t93, e_t93, h⟩ := q_bind h
      refine aw_ldi d_Model_holds_93 e_t93 ?_
      refine aw_sipush (v := 1440) d_Model_holds_94 (by decide) ?_
      refine aw_aload_n d_Model_holds_97 rfl rfl ?_
      obtain ⟨t98, e_t98, h⟩ := q_bind h
      refine aw_gtr d_Model_holds_98 fl_Model_72 (Or.inr ⟨_, rfl⟩) e_t98 ?_
      refine aw_iload_n d_Model_holds_101 rfl rfl ?_
      obtain ⟨t102, e_t102, h⟩ := q_bind h
      refine aw_ldi d_Model_holds_102 e_t102 ?_
      refine aw_imul d_Model_holds_103 ?_
      refine aw_sipush (v := 1440) d_Model_holds_104 (by decide) ?_
      refine aw_iadd d_Model_holds_107 ?_
      refine aw_icmp_ge (tgt := 135) d_Model_holds_108 (by decide) (fun hc => ?_) (fun hc => ?_)
      · rw [if_pos hc] at h
        exact aw_pick [0, 1, 2, 3, 5] rfl (ih_5 _ _ _ _ _ _ _ _ _ _ h)
      · rw [if_neg hc] at h
        refine aw_aload_n d_Model_holds_111 rfl rfl ?_
        obtain ⟨t112, e_t112, h⟩ := q_bind h
        refine aw_gtr d_Model_holds_112 fl_Model_115 (Or.inr ⟨_, rfl⟩) e_t112 ?_
        refine aw_iload d_Model_holds_115 rfl ?_
        obtain ⟨t117, e_t117, h⟩ := q_bind h
        refine aw_ldi d_Model_holds_117 e_t117 ?_
        refine aw_sipush (v := 1440) d_Model_holds_118 (by decide) ?_
        refine aw_aload_n d_Model_holds_121 rfl rfl ?_
        obtain ⟨t122, e_t122, h⟩ := q_bind h
        refine aw_gtr d_Model_holds_122 fl_Model_72 (Or.inr ⟨_, rfl⟩) e_t122 ?_
        refine aw_iload_n d_Model_holds_125 rfl rfl ?_
        obtain ⟨t126, e_t126, h⟩ := q_bind h
        refine aw_ldi d_Model_holds_126 e_t126 ?_
        refine aw_imul d_Model_holds_127 ?_
        refine aw_icmp_le (tgt := 135) d_Model_holds_128 (by decide) (fun hc => ?_) (fun hc => ?_)
        · rw [if_pos hc] at h
          exact aw_pick [0, 1, 2, 3, 5] rfl (ih_5 _ _ _ _ _ _ _ _ _ _ h)
        · rw [if_neg hc] at h
          exact aw_pick [0, 1, 2, 3, 5] rfl (ih_4 _ _ _ _ _ _ _ _ _ _ h)
set_option maxHeartbeats 4000000 in
theorem s_Model_holds_4 {rc : Nat → Nat → Int32 → Int32 → Int32 → Int32 → Int32 → Int32 → Int32 → Int32 → am_M → Option (Int32)} {res : Int32} (ih_0 : ∀ (r0 : Nat) (x1 : Int32) (x2 : Int32) (x3 : Int32) (x4 : Int32) (x5 : Int32) (x6 : Int32) (s0 : Int32) (s1 : Int32) (M : am_M), rc 0 r0 x1 x2 x3 x4 x5 x6 s0 s1 M = some res → AW u_Model_holds R_Model_holds 0 0 8 [(0, .ref r0), (1, .int x1), (2, .int x2), (3, .int x3), (4, .int x4), (5, .int x5)] [] M (fun r M2 => r = .inl (some (.int res)) ∧ M2 = M)) (ih_1 : ∀ (r0 : Nat) (x1 : Int32) (x2 : Int32) (x3 : Int32) (x4 : Int32) (x5 : Int32) (x6 : Int32) (s0 : Int32) (s1 : Int32) (M : am_M), rc 1 r0 x1 x2 x3 x4 x5 x6 s0 s1 M = some res → AW u_Model_holds R_Model_holds 0 0 65 [(0, .ref r0), (1, .int x1), (2, .int x2), (3, .int x3), (5, .int x5)] [] M (fun r M2 => r = .inl (some (.int res)) ∧ M2 = M)) (ih_2 : ∀ (r0 : Nat) (x1 : Int32) (x2 : Int32) (x3 : Int32) (x4 : Int32) (x5 : Int32) (x6 : Int32) (s0 : Int32) (s1 : Int32) (M : am_M), rc 2 r0 x1 x2 x3 x4 x5 x6 s0 s1 M = some res → AW u_Model_holds R_Model_holds 0 0 70 [(0, .ref r0), (1, .int x1), (2, .int x2), (3, .int x3), (5, .int x5)] [.int s0] M (fun r M2 => r = .inl (some (.int res)) ∧ M2 = M)) (ih_3 : ∀ (r0 : Nat) (x1 : Int32) (x2 : Int32) (x3 : Int32) (x4 : Int32) (x5 : Int32) (x6 : Int32) (s0 : Int32) (s1 : Int32) (M : am_M), rc 3 r0 x1 x2 x3 x4 x5 x6 s0 s1 M = some res → AW u_Model_holds R_Model_holds 0 0 72 [(0, .ref r0), (1, .int x1), (2, .int x2), (3, .int x3), (4, .int x4), (5, .int x5)] [] M (fun r M2 => r = .inl (some (.int res)) ∧ M2 = M)) (ih_4 : ∀ (r0 : Nat) (x1 : Int32) (x2 : Int32) (x3 : Int32) (x4 : Int32) (x5 : Int32) (x6 : Int32) (s0 : Int32) (s1 : Int32) (M : am_M), rc 4 r0 x1 x2 x3 x4 x5 x6 s0 s1 M = some res → AW u_Model_holds R_Model_holds 0 0 131 [(0, .ref r0), (1, .int x1), (2, .int x2), (3, .int x3), (5, .int x5)] [] M (fun r M2 => r = .inl (some (.int res)) ∧ M2 = M)) (ih_5 : ∀ (r0 : Nat) (x1 : Int32) (x2 : Int32) (x3 : Int32) (x4 : Int32) (x5 : Int32) (x6 : Int32) (s0 : Int32) (s1 : Int32) (M : am_M), rc 5 r0 x1 x2 x3 x4 x5 x6 s0 s1 M = some res → AW u_Model_holds R_Model_holds 0 0 135 [(0, .ref r0), (1, .int x1), (2, .int x2), (3, .int x3), (5, .int x5)] [] M (fun r M2 => r = .inl (some (.int res)) ∧ M2 = M)) (ih_6 : ∀ (r0 : Nat) (x1 : Int32) (x2 : Int32) (x3 : Int32) (x4 : Int32) (x5 : Int32) (x6 : Int32) (s0 : Int32) (s1 : Int32) (M : am_M), rc 6 r0 x1 x2 x3 x4 x5 x6 s0 s1 M = some res → AW u_Model_holds R_Model_holds 0 0 136 [(0, .ref r0), (1, .int x1), (2, .int x2), (3, .int x3), (5, .int x5)] [.int s0] M (fun r M2 => r = .inl (some (.int res)) ∧ M2 = M)) (ih_7 : ∀ (r0 : Nat) (x1 : Int32) (x2 : Int32) (x3 : Int32) (x4 : Int32) (x5 : Int32) (x6 : Int32) (s0 : Int32) (s1 : Int32) (M : am_M), rc 7 r0 x1 x2 x3 x4 x5 x6 s0 s1 M = some res → AW u_Model_holds R_Model_holds 0 0 138 [(0, .ref r0), (1, .int x1), (2, .int x2), (3, .int x3), (4, .int x4), (5, .int x5)] [] M (fun r M2 => r = .inl (some (.int res)) ∧ M2 = M)) (ih_8 : ∀ (r0 : Nat) (x1 : Int32) (x2 : Int32) (x3 : Int32) (x4 : Int32) (x5 : Int32) (x6 : Int32) (s0 : Int32) (s1 : Int32) (M : am_M), rc 8 r0 x1 x2 x3 x4 x5 x6 s0 s1 M = some res → AW u_Model_holds R_Model_holds 0 0 141 [(0, .ref r0), (1, .int x1), (2, .int x2), (3, .int x3), (4, .int x4), (5, .int x5), (6, .int x6)] [] M (fun r M2 => r = .inl (some (.int res)) ∧ M2 = M)) (ih_9 : ∀ (r0 : Nat) (x1 : Int32) (x2 : Int32) (x3 : Int32) (x4 : Int32) (x5 : Int32) (x6 : Int32) (s0 : Int32) (s1 : Int32) (M : am_M), rc 9 r0 x1 x2 x3 x4 x5 x6 s0 s1 M = some res → AW u_Model_holds R_Model_holds 0 0 196 [(0, .ref r0), (1, .int x1), (2, .int x2), (4, .int x4), (5, .int x5), (6, .int x6)] [.int s0, .int s1] M (fun r M2 => r = .inl (some (.int res)) ∧ M2 = M)) (ih_10 : ∀ (r0 : Nat) (x1 : Int32) (x2 : Int32) (x3 : Int32) (x4 : Int32) (x5 : Int32) (x6 : Int32) (s0 : Int32) (s1 : Int32) (M : am_M), rc 10 r0 x1 x2 x3 x4 x5 x6 s0 s1 M = some res → AW u_Model_holds R_Model_holds 0 0 204 [(0, .ref r0), (1, .int x1), (2, .int x2), (3, .int x3), (4, .int x4), (5, .int x5)] [] M (fun r M2 => r = .inl (some (.int res)) ∧ M2 = M)) (ih_11 : ∀ (r0 : Nat) (x1 : Int32) (x2 : Int32) (x3 : Int32) (x4 : Int32) (x5 : Int32) (x6 : Int32) (s0 : Int32) (s1 : Int32) (M : am_M), rc 11 r0 x1 x2 x3 x4 x5 x6 s0 s1 M = some res → AW u_Model_holds R_Model_holds 0 0 240 [] [.int s0, .int s1] M (fun r M2 => r = .inl (some (.int res)) ∧ M2 = M)) : ∀ (r0 : Nat) (x1 : Int32) (x2 : Int32) (x3 : Int32) (x4 : Int32) (x5 : Int32) (x6 : Int32) (s0 : Int32) (s1 : Int32) (M : am_M), a_Model_holds_4 rc r0 x1 x2 x3 x4 x5 x6 s0 s1 M = some res → AW u_Model_holds R_Model_holds 0 0 131 [(0, .ref r0), (1, .int x1), (2, .int x2), (3, .int x3), (5, .int x5)] [] M (fun r M2 => r = .inl (some (.int res)) ∧ M2 = M) := by
  intro r0 x1 x2 x3 x4 x5 x6 s0 s1 M h
  unfold a_Model_holds_4 at h
  refine aw_iconst (v := 1) d_Model_holds_131 (by decide) ?_
  refine aw_goto (tgt := 136) d_Model_holds_132 (by decide) ?_
  exact aw_pick [0, 1, 2, 3, 4] rfl (ih_6 _ _ _ _ _ _ _ _ _ _ h)
set_option maxHeartbeats 4000000 in
theorem s_Model_holds_5 {rc : Nat → Nat → Int32 → Int32 → Int32 → Int32 → Int32 → Int32 → Int32 → Int32 → am_M → Option (Int32)} {res : Int32} (ih_0 : ∀ (r0 : Nat) (x1 : Int32) (x2 : Int32) (x3 : Int32) (x4 : Int32) (x5 : Int32) (x6 : Int32) (s0 : Int32) (s1 : Int32) (M : am_M), rc 0 r0 x1 x2 x3 x4 x5 x6 s0 s1 M = some res → AW u_Model_holds R_Model_holds 0 0 8 [(0, .ref r0), (1, .int x1), (2, .int x2), (3, .int x3), (4, .int x4), (5, .int x5)] [] M (fun r M2 => r = .inl (some (.int res)) ∧ M2 = M)) (ih_1 : ∀ (r0 : Nat) (x1 : Int32) (x2 : Int32) (x3 : Int32) (x4 : Int32) (x5 : Int32) (x6 : Int32) (s0 : Int32) (s1 : Int32) (M : am_M), rc 1 r0 x1 x2 x3 x4 x5 x6 s0 s1 M = some res → AW u_Model_holds R_Model_holds 0 0 65 [(0, .ref r0), (1, .int x1), (2, .int x2), (3, .int x3), (5, .int x5)] [] M (fun r M2 => r = .inl (some (.int res)) ∧ M2 = M)) (ih_2 : ∀ (r0 : Nat) (x1 : Int32) (x2 : Int32) (x3 : Int32) (x4 : Int32) (x5 : Int32) (x6 : Int32) (s0 : Int32) (s1 : Int32) (M : am_M), rc 2 r0 x1 x2 x3 x4 x5 x6 s0 s1 M = some res → AW u_Model_holds R_Model_holds 0 0 70 [(0, .ref r0), (1, .int x1), (2, .int x2), (3, .int x3), (5, .int x5)] [.int s0] M (fun r M2 => r = .inl (some (.int res)) ∧ M2 = M)) (ih_3 : ∀ (r0 : Nat) (x1 : Int32) (x2 : Int32) (x3 : Int32) (x4 : Int32) (x5 : Int32) (x6 : Int32) (s0 : Int32) (s1 : Int32) (M : am_M), rc 3 r0 x1 x2 x3 x4 x5 x6 s0 s1 M = some res → AW u_Model_holds R_Model_holds 0 0 72 [(0, .ref r0), (1, .int x1), (2, .int x2), (3, .int x3), (4, .int x4), (5, .int x5)] [] M (fun r M2 => r = .inl (some (.int res)) ∧ M2 = M)) (ih_4 : ∀ (r0 : Nat) (x1 : Int32) (x2 : Int32) (x3 : Int32) (x4 : Int32) (x5 : Int32) (x6 : Int32) (s0 : Int32) (s1 : Int32) (M : am_M), rc 4 r0 x1 x2 x3 x4 x5 x6 s0 s1 M = some res → AW u_Model_holds R_Model_holds 0 0 131 [(0, .ref r0), (1, .int x1), (2, .int x2), (3, .int x3), (5, .int x5)] [] M (fun r M2 => r = .inl (some (.int res)) ∧ M2 = M)) (ih_5 : ∀ (r0 : Nat) (x1 : Int32) (x2 : Int32) (x3 : Int32) (x4 : Int32) (x5 : Int32) (x6 : Int32) (s0 : Int32) (s1 : Int32) (M : am_M), rc 5 r0 x1 x2 x3 x4 x5 x6 s0 s1 M = some res → AW u_Model_holds R_Model_holds 0 0 135 [(0, .ref r0), (1, .int x1), (2, .int x2), (3, .int x3), (5, .int x5)] [] M (fun r M2 => r = .inl (some (.int res)) ∧ M2 = M)) (ih_6 : ∀ (r0 : Nat) (x1 : Int32) (x2 : Int32) (x3 : Int32) (x4 : Int32) (x5 : Int32) (x6 : Int32) (s0 : Int32) (s1 : Int32) (M : am_M), rc 6 r0 x1 x2 x3 x4 x5 x6 s0 s1 M = some res → AW u_Model_holds R_Model_holds 0 0 136 [(0, .ref r0), (1, .int x1), (2, .int x2), (3, .int x3), (5, .int x5)] [.int s0] M (fun r M2 => r = .inl (some (.int res)) ∧ M2 = M)) (ih_7 : ∀ (r0 : Nat) (x1 : Int32) (x2 : Int32) (x3 : Int32) (x4 : Int32) (x5 : Int32) (x6 : Int32) (s0 : Int32) (s1 : Int32) (M : am_M), rc 7 r0 x1 x2 x3 x4 x5 x6 s0 s1 M = some res → AW u_Model_holds R_Model_holds 0 0 138 [(0, .ref r0), (1, .int x1), (2, .int x2), (3, .int x3), (4, .int x4), (5, .int x5)] [] M (fun r M2 => r = .inl (some (.int res)) ∧ M2 = M)) (ih_8 : ∀ (r0 : Nat) (x1 : Int32) (x2 : Int32) (x3 : Int32) (x4 : Int32) (x5 : Int32) (x6 : Int32) (s0 : Int32) (s1 : Int32) (M : am_M), rc 8 r0 x1 x2 x3 x4 x5 x6 s0 s1 M = some res → AW u_Model_holds R_Model_holds 0 0 141 [(0, .ref r0), (1, .int x1), (2, .int x2), (3, .int x3), (4, .int x4), (5, .int x5), (6, .int x6)] [] M (fun r M2 => r = .inl (some (.int res)) ∧ M2 = M)) (ih_9 : ∀ (r0 : Nat) (x1 : Int32) (x2 : Int32) (x3 : Int32) (x4 : Int32) (x5 : Int32) (x6 : Int32) (s0 : Int32) (s1 : Int32) (M : am_M), rc 9 r0 x1 x2 x3 x4 x5 x6 s0 s1 M = some res → AW u_Model_holds R_Model_holds 0 0 196 [(0, .ref r0), (1, .int x1), (2, .int x2), (4, .int x4), (5, .int x5), (6, .int x6)] [.int s0, .int s1] M (fun r M2 => r = .inl (some (.int res)) ∧ M2 = M)) (ih_10 : ∀ (r0 : Nat) (x1 : Int32) (x2 : Int32) (x3 : Int32) (x4 : Int32) (x5 : Int32) (x6 : Int32) (s0 : Int32) (s1 : Int32) (M : am_M), rc 10 r0 x1 x2 x3 x4 x5 x6 s0 s1 M = some res → AW u_Model_holds R_Model_holds 0 0 204 [(0, .ref r0), (1, .int x1), (2, .int x2), (3, .int x3), (4, .int x4), (5, .int x5)] [] M (fun r M2 => r = .inl (some (.int res)) ∧ M2 = M)) (ih_11 : ∀ (r0 : Nat) (x1 : Int32) (x2 : Int32) (x3 : Int32) (x4 : Int32) (x5 : Int32) (x6 : Int32) (s0 : Int32) (s1 : Int32) (M : am_M), rc 11 r0 x1 x2 x3 x4 x5 x6 s0 s1 M = some res → AW u_Model_holds R_Model_holds 0 0 240 [] [.int s0, .int s1] M (fun r M2 => r = .inl (some (.int res)) ∧ M2 = M)) : ∀ (r0 : Nat) (x1 : Int32) (x2 : Int32) (x3 : Int32) (x4 : Int32) (x5 : Int32) (x6 : Int32) (s0 : Int32) (s1 : Int32) (M : am_M), a_Model_holds_5 rc r0 x1 x2 x3 x4 x5 x6 s0 s1 M = some res → AW u_Model_holds R_Model_holds 0 0 135 [(0, .ref r0), (1, .int x1), (2, .int x2), (3, .int x3), (5, .int x5)] [] M (fun r M2 => r = .inl (some (.int res)) ∧ M2 = M) := by
  intro r0 x1 x2 x3 x4 x5 x6 s0 s1 M h
  unfold a_Model_holds_5 at h
  refine aw_iconst (v := 0) d_Model_holds_135 (by decide) ?_
  exact aw_pick [0, 1, 2, 3, 4] rfl (ih_6 _ _ _ _ _ _ _ _ _ _ h)
set_option maxHeartbeats 4000000 in
theorem s_Model_holds_6 {rc : Nat → Nat → Int32 → Int32 → Int32 → Int32 → Int32 → Int32 → Int32 → Int32 → am_M → Option (Int32)} {res : Int32} (ih_0 : ∀ (r0 : Nat) (x1 : Int32) (x2 : Int32) (x3 : Int32) (x4 : Int32) (x5 : Int32) (x6 : Int32) (s0 : Int32) (s1 : Int32) (M : am_M), rc 0 r0 x1 x2 x3 x4 x5 x6 s0 s1 M = some res → AW u_Model_holds R_Model_holds 0 0 8 [(0, .ref r0), (1, .int x1), (2, .int x2), (3, .int x3), (4, .int x4), (5, .int x5)] [] M (fun r M2 => r = .inl (some (.int res)) ∧ M2 = M)) (ih_1 : ∀ (r0 : Nat) (x1 : Int32) (x2 : Int32) (x3 : Int32) (x4 : Int32) (x5 : Int32) (x6 : Int32) (s0 : Int32) (s1 : Int32) (M : am_M), rc 1 r0 x1 x2 x3 x4 x5 x6 s0 s1 M = some res → AW u_Model_holds R_Model_holds 0 0 65 [(0, .ref r0), (1, .int x1), (2, .int x2), (3, .int x3), (5, .int x5)] [] M (fun r M2 => r = .inl (some (.int res)) ∧ M2 = M)) (ih_2 : ∀ (r0 : Nat) (x1 : Int32) (x2 : Int32) (x3 : Int32) (x4 : Int32) (x5 : Int32) (x6 : Int32) (s0 : Int32) (s1 : Int32) (M : am_M), rc 2 r0 x1 x2 x3 x4 x5 x6 s0 s1 M = some res → AW u_Model_holds R_Model_holds 0 0 70 [(0, .ref r0), (1, .int x1), (2, .int x2), (3, .int x3), (5, .int x5)] [.int s0] M (fun r M2 => r = .inl (some (.int res)) ∧ M2 = M)) (ih_3 : ∀ (r0 : Nat) (x1 : Int32) (x2 : Int32) (x3 : Int32) (x4 : Int32) (x5 : Int32) (x6 : Int32) (s0 : Int32) (s1 : Int32) (M : am_M), rc 3 r0 x1 x2 x3 x4 x5 x6 s0 s1 M = some res → AW u_Model_holds R_Model_holds 0 0 72 [(0, .ref r0), (1, .int x1), (2, .int x2), (3, .int x3), (4, .int x4), (5, .int x5)] [] M (fun r M2 => r = .inl (some (.int res)) ∧ M2 = M)) (ih_4 : ∀ (r0 : Nat) (x1 : Int32) (x2 : Int32) (x3 : Int32) (x4 : Int32) (x5 : Int32) (x6 : Int32) (s0 : Int32) (s1 : Int32) (M : am_M), rc 4 r0 x1 x2 x3 x4 x5 x6 s0 s1 M = some res → AW u_Model_holds R_Model_holds 0 0 131 [(0, .ref r0), (1, .int x1), (2, .int x2), (3, .int x3), (5, .int x5)] [] M (fun r M2 => r = .inl (some (.int res)) ∧ M2 = M)) (ih_5 : ∀ (r0 : Nat) (x1 : Int32) (x2 : Int32) (x3 : Int32) (x4 : Int32) (x5 : Int32) (x6 : Int32) (s0 : Int32) (s1 : Int32) (M : am_M), rc 5 r0 x1 x2 x3 x4 x5 x6 s0 s1 M = some res → AW u_Model_holds R_Model_holds 0 0 135 [(0, .ref r0), (1, .int x1), (2, .int x2), (3, .int x3), (5, .int x5)] [] M (fun r M2 => r = .inl (some (.int res)) ∧ M2 = M)) (ih_6 : ∀ (r0 : Nat) (x1 : Int32) (x2 : Int32) (x3 : Int32) (x4 : Int32) (x5 : Int32) (x6 : Int32) (s0 : Int32) (s1 : Int32) (M : am_M), rc 6 r0 x1 x2 x3 x4 x5 x6 s0 s1 M = some res → AW u_Model_holds R_Model_holds 0 0 136 [(0, .ref r0), (1, .int x1), (2, .int x2), (3, .int x3), (5, .int x5)] [.int s0] M (fun r M2 => r = .inl (some (.int res)) ∧ M2 = M)) (ih_7 : ∀ (r0 : Nat) (x1 : Int32) (x2 : Int32) (x3 : Int32) (x4 : Int32) (x5 : Int32) (x6 : Int32) (s0 : Int32) (s1 : Int32) (M : am_M), rc 7 r0 x1 x2 x3 x4 x5 x6 s0 s1 M = some res → AW u_Model_holds R_Model_holds 0 0 138 [(0, .ref r0), (1, .int x1), (2, .int x2), (3, .int x3), (4, .int x4), (5, .int x5)] [] M (fun r M2 => r = .inl (some (.int res)) ∧ M2 = M)) (ih_8 : ∀ (r0 : Nat) (x1 : Int32) (x2 : Int32) (x3 : Int32) (x4 : Int32) (x5 : Int32) (x6 : Int32) (s0 : Int32) (s1 : Int32) (M : am_M), rc 8 r0 x1 x2 x3 x4 x5 x6 s0 s1 M = some res → AW u_Model_holds R_Model_holds 0 0 141 [(0, .ref r0), (1, .int x1), (2, .int x2), (3, .int x3), (4, .int x4), (5, .int x5), (6, .int x6)] [] M (fun r M2 => r = .inl (some (.int res)) ∧ M2 = M)) (ih_9 : ∀ (r0 : Nat) (x1 : Int32) (x2 : Int32) (x3 : Int32) (x4 : Int32) (x5 : Int32) (x6 : Int32) (s0 : Int32) (s1 : Int32) (M : am_M), rc 9 r0 x1 x2 x3 x4 x5 x6 s0 s1 M = some res → AW u_Model_holds R_Model_holds 0 0 196 [(0, .ref r0), (1, .int x1), (2, .int x2), (4, .int x4), (5, .int x5), (6, .int x6)] [.int s0, .int s1] M (fun r M2 => r = .inl (some (.int res)) ∧ M2 = M)) (ih_10 : ∀ (r0 : Nat) (x1 : Int32) (x2 : Int32) (x3 : Int32) (x4 : Int32) (x5 : Int32) (x6 : Int32) (s0 : Int32) (s1 : Int32) (M : am_M), rc 10 r0 x1 x2 x3 x4 x5 x6 s0 s1 M = some res → AW u_Model_holds R_Model_holds 0 0 204 [(0, .ref r0), (1, .int x1), (2, .int x2), (3, .int x3), (4, .int x4), (5, .int x5)] [] M (fun r M2 => r = .inl (some (.int res)) ∧ M2 = M)) (ih_11 : ∀ (r0 : Nat) (x1 : Int32) (x2 : Int32) (x3 : Int32) (x4 : Int32) (x5 : Int32) (x6 : Int32) (s0 : Int32) (s1 : Int32) (M : am_M), rc 11 r0 x1 x2 x3 x4 x5 x6 s0 s1 M = some res → AW u_Model_holds R_Model_holds 0 0 240 [] [.int s0, .int s1] M (fun r M2 => r = .inl (some (.int res)) ∧ M2 = M)) : ∀ (r0 : Nat) (x1 : Int32) (x2 : Int32) (x3 : Int32) (x4 : Int32) (x5 : Int32) (x6 : Int32) (s0 : Int32) (s1 : Int32) (M : am_M), a_Model_holds_6 rc r0 x1 x2 x3 x4 x5 x6 s0 s1 M = some res → AW u_Model_holds R_Model_holds 0 0 136 [(0, .ref r0), (1, .int x1), (2, .int x2), (3, .int x3), (5, .int x5)] [.int s0] M (fun r M2 => r = .inl (some (.int res)) ∧ M2 = M) := by
  intro r0 x1 x2 x3 x4 x5 x6 s0 s1 M h
  unfold a_Model_holds_6 at h
  refine aw_istore (ls' := [(4, .int _), (0, .ref _), (1, .int _), (2, .int _), (3, .int _), (5, .int _)]) d_Model_holds_136 (Nat.le_of_ble_eq_true rfl) rfl ?_
  exact aw_pick [1, 2, 3, 4, 0, 5] rfl (ih_7 _ _ _ _ _ _ _ _ _ _ h)
set_option maxHeartbeats 4000000 in
theorem s_Model_holds_7 {rc : Nat → Nat → Int32 → Int32 → Int32 → Int32 → Int32 → Int32 → Int32 → Int32 → am_M → Option (Int32)} {res : Int32} (ih_0 : ∀ (r0 : Nat) (x1 : Int32) (x2 : Int32) (x3 : Int32) (x4 : Int32) (x5 : Int32) (x6 : Int32) (s0 : Int32) (s1 : Int32) (M : am_M), rc 0 r0 x1 x2 x3 x4 x5 x6 s0 s1 M = some res → AW u_Model_holds R_Model_holds 0 0 8 [(0, .ref r0), (1, .int x1), (2, .int x2), (3, .int x3), (4, .int x4), (5, .int x5)] [] M (fun r M2 => r = .inl (some (.int res)) ∧ M2 = M)) (ih_1 : ∀ (r0 : Nat) (x1 : Int32) (x2 : Int32) (x3 : Int32) (x4 : Int32) (x5 : Int32) (x6 : Int32) (s0 : Int32) (s1 : Int32) (M : am_M), rc 1 r0 x1 x2 x3 x4 x5 x6 s0 s1 M = some res → AW u_Model_holds R_Model_holds 0 0 65 [(0, .ref r0), (1, .int x1), (2, .int x2), (3, .int x3), (5, .int x5)] [] M (fun r M2 => r = .inl (some (.int res)) ∧ M2 = M)) (ih_2 : ∀ (r0 : Nat) (x1 : Int32) (x2 : Int32) (x3 : Int32) (x4 : Int32) (x5 : Int32) (x6 : Int32) (s0 : Int32) (s1 : Int32) (M : am_M), rc 2 r0 x1 x2 x3 x4 x5 x6 s0 s1 M = some res → AW u_Model_holds R_Model_holds 0 0 70 [(0, .ref r0), (1, .int x1), (2, .int x2), (3, .int x3), (5, .int x5)] [.int s0] M (fun r M2 => r = .inl (some (.int res)) ∧ M2 = M)) (ih_3 : ∀ (r0 : Nat) (x1 : Int32) (x2 : Int32) (x3 : Int32) (x4 : Int32) (x5 : Int32) (x6 : Int32) (s0 : Int32) (s1 : Int32) (M : am_M), rc 3 r0 x1 x2 x3 x4 x5 x6 s0 s1 M = some res → AW u_Model_holds R_Model_holds 0 0 72 [(0, .ref r0), (1, .int x1), (2, .int x2), (3, .int x3), (4, .int x4), (5, .int x5)] [] M (fun r M2 => r = .inl (some (.int res)) ∧ M2 = M)) (ih_4 : ∀ (r0 : Nat) (x1 : Int32) (x2 : Int32) (x3 : Int32) (x4 : Int32) (x5 : Int32) (x6 : Int32) (s0 : Int32) (s1 : Int32) (M : am_M), rc 4 r0 x1 x2 x3 x4 x5 x6 s0 s1 M = some res → AW u_Model_holds R_Model_holds 0 0 131 [(0, .ref r0), (1, .int x1), (2, .int x2), (3, .int x3), (5, .int x5)] [] M (fun r M2 => r = .inl (some (.int res)) ∧ M2 = M)) (ih_5 : ∀ (r0 : Nat) (x1 : Int32) (x2 : Int32) (x3 : Int32) (x4 : Int32) (x5 : Int32) (x6 : Int32) (s0 : Int32) (s1 : Int32) (M : am_M), rc 5 r0 x1 x2 x3 x4 x5 x6 s0 s1 M = some res → AW u_Model_holds R_Model_holds 0 0 135 [(0, .ref r0), (1, .int x1), (2, .int x2), (3, .int x3), (5, .int x5)] [] M (fun r M2 => r = .inl (some (.int res)) ∧ M2 = M)) (ih_6 : ∀ (r0 : Nat) (x1 : Int32) (x2 : Int32) (x3 : Int32) (x4 : Int32) (x5 : Int32) (x6 : Int32) (s0 : Int32) (s1 : Int32) (M : am_M), rc 6 r0 x1 x2 x3 x4 x5 x6 s0 s1 M = some res → AW u_Model_holds R_Model_holds 0 0 136 [(0, .ref r0), (1, .int x1), (2, .int x2), (3, .int x3), (5, .int x5)] [.int s0] M (fun r M2 => r = .inl (some (.int res)) ∧ M2 = M)) (ih_7 : ∀ (r0 : Nat) (x1 : Int32) (x2 : Int32) (x3 : Int32) (x4 : Int32) (x5 : Int32) (x6 : Int32) (s0 : Int32) (s1 : Int32) (M : am_M), rc 7 r0 x1 x2 x3 x4 x5 x6 s0 s1 M = some res → AW u_Model_holds R_Model_holds 0 0 138 [(0, .ref r0), (1, .int x1), (2, .int x2), (3, .int x3), (4, .int x4), (5, .int x5)] [] M (fun r M2 => r = .inl (some (.int res)) ∧ M2 = M)) (ih_8 : ∀ (r0 : Nat) (x1 : Int32) (x2 : Int32) (x3 : Int32) (x4 : Int32) (x5 : Int32) (x6 : Int32) (s0 : Int32) (s1 : Int32) (M : am_M), rc 8 r0 x1 x2 x3 x4 x5 x6 s0 s1 M = some res → AW u_Model_holds R_Model_holds 0 0 141 [(0, .ref r0), (1, .int x1), (2, .int x2), (3, .int x3), (4, .int x4), (5, .int x5), (6, .int x6)] [] M (fun r M2 => r = .inl (some (.int res)) ∧ M2 = M)) (ih_9 : ∀ (r0 : Nat) (x1 : Int32) (x2 : Int32) (x3 : Int32) (x4 : Int32) (x5 : Int32) (x6 : Int32) (s0 : Int32) (s1 : Int32) (M : am_M), rc 9 r0 x1 x2 x3 x4 x5 x6 s0 s1 M = some res → AW u_Model_holds R_Model_holds 0 0 196 [(0, .ref r0), (1, .int x1), (2, .int x2), (4, .int x4), (5, .int x5), (6, .int x6)] [.int s0, .int s1] M (fun r M2 => r = .inl (some (.int res)) ∧ M2 = M)) (ih_10 : ∀ (r0 : Nat) (x1 : Int32) (x2 : Int32) (x3 : Int32) (x4 : Int32) (x5 : Int32) (x6 : Int32) (s0 : Int32) (s1 : Int32) (M : am_M), rc 10 r0 x1 x2 x3 x4 x5 x6 s0 s1 M = some res → AW u_Model_holds R_Model_holds 0 0 204 [(0, .ref r0), (1, .int x1), (2, .int x2), (3, .int x3), (4, .int x4), (5, .int x5)] [] M (fun r M2 => r = .inl (some (.int res)) ∧ M2 = M)) (ih_11 : ∀ (r0 : Nat) (x1 : Int32) (x2 : Int32) (x3 : Int32) (x4 : Int32) (x5 : Int32) (x6 : Int32) (s0 : Int32) (s1 : Int32) (M : am_M), rc 11 r0 x1 x2 x3 x4 x5 x6 s0 s1 M = some res → AW u_Model_holds R_Model_holds 0 0 240 [] [.int s0, .int s1] M (fun r M2 => r = .inl (some (.int res)) ∧ M2 = M)) : ∀ (r0 : Nat) (x1 : Int32) (x2 : Int32) (x3 : Int32) (x4 : Int32) (x5 : Int32) (x6 : Int32) (s0 : Int32) (s1 : Int32) (M : am_M), a_Model_holds_7 rc r0 x1 x2 x3 x4 x5 x6 s0 s1 M = some res → AW u_Model_holds R_Model_holds 0 0 138 [(0, .ref r0), (1, .int x1), (2, .int x2), (3, .int x3), (4, .int x4), (5, .int x5)] [] M (fun r M2 => r = .inl (some (.int res)) ∧ M2 = M) := by
  intro r0 x1 x2 x3 x4 x5 x6 s0 s1 M h
  unfold a_Model_holds_7 at h
  refine aw_iconst (v := 0) d_Model_holds_138 (by decide) ?_
  refine aw_istore (ls' := [(6, .int _), (0, .ref _), (1, .int _), (2, .int _), (3, .int _), (4, .int _), (5, .int _)]) d_Model_holds_139 (Nat.le_of_ble_eq_true rfl) rfl ?_
  exact aw_pick [1, 2, 3, 4, 5, 6, 0] rfl (ih_8 _ _ _ _ _ _ _ _ _ _ h)
set_option maxHeartbeats 4000000 in
theorem s_Model_holds_8 {rc : Nat → Nat → Int32 → Int32 → Int32 → Int32 → Int32 → Int32 → Int32 → Int32 → am_M → Option (Int32)} {res : Int32} (ih_0 : ∀ (r0 : Nat) (x1 : Int32) (x2 : Int32) (x3 : Int32) (x4 : Int32) (x5 : Int32) (x6 : Int32) (s0 : Int32) (s1 : Int32) (M : am_M), rc 0 r0 x1 x2 x3 x4 x5 x6 s0 s1 M = some res → AW u_Model_holds R_Model_holds 0 0 8 [(0, .ref r0), (1, .int x1), (2, .int x2), (3, .int x3), (4, .int x4), (5, .int x5)] [] M (fun r M2 => r = .inl (some (.int res)) ∧ M2 = M)) (ih_1 : ∀ (r0 : Nat) (x1 : Int32) (x2 : Int32) (x3 : Int32) (x4 : Int32) (x5 : Int32) (x6 : Int32) (s0 : Int32) (s1 : Int32) (M : am_M), rc 1 r0 x1 x2 x3 x4 x5 x6 s0 s1 M = some res → AW u_Model_holds R_Model_holds 0 0 65 [(0, .ref r0), (1, .int x1), (2, .int x2), (3, .int x3), (5, .int x5)] [] M (fun r M2 => r = .inl (some (.int res)) ∧ M2 = M)) (ih_2 : ∀ (r0 : Nat) (x1 : Int32) (x2 : Int32) (x3 : Int32) (x4 : Int32) (x5 : Int32) (x6 : Int32) (s0 : Int32) (s1 : Int32) (M : am_M), rc 2 r0 x1 x2 x3 x4 x5 x6 s0 s1 M = some res → AW u_Model_holds R_Model_holds 0 0 70 [(0, .ref r0), (1, .int x1), (2, .int x2), (3, .int x3), (5, .int x5)] [.int s0] M (fun r M2 => r = .inl (some (.int res)) ∧ M2 = M)) (ih_3 : ∀ (r0 : Nat) (x1 : Int32) (x2 : Int32) (x3 : Int32) (x4 : Int32) (x5 : Int32) (x6 : Int32) (s0 : Int32) (s1 : Int32) (M : am_M), rc 3 r0 x1 x2 x3 x4 x5 x6 s0 s1 M = some res → AW u_Model_holds R_Model_holds 0 0 72 [(0, .ref r0), (1, .int x1), (2, .int x2), (3, .int x3), (4, .int x4), (5, .int x5)] [] M (fun r M2 => r = .inl (some (.int res)) ∧ M2 = M)) (ih_4 : ∀ (r0 : Nat) (x1 : Int32) (x2 : Int32) (x3 : Int32) (x4 : Int32) (x5 : Int32) (x6 : Int32) (s0 : Int32) (s1 : Int32) (M : am_M), rc 4 r0 x1 x2 x3 x4 x5 x6 s0 s1 M = some res → AW u_Model_holds R_Model_holds 0 0 131 [(0, .ref r0), (1, .int x1), (2, .int x2), (3, .int x3), (5, .int x5)] [] M (fun r M2 => r = .inl (some (.int res)) ∧ M2 = M)) (ih_5 : ∀ (r0 : Nat) (x1 : Int32) (x2 : Int32) (x3 : Int32) (x4 : Int32) (x5 : Int32) (x6 : Int32) (s0 : Int32) (s1 : Int32) (M : am_M), rc 5 r0 x1 x2 x3 x4 x5 x6 s0 s1 M = some res → AW u_Model_holds R_Model_holds 0 0 135 [(0, .ref r0), (1, .int x1), (2, .int x2), (3, .int x3), (5, .int x5)] [] M (fun r M2 => r = .inl (some (.int res)) ∧ M2 = M)) (ih_6 : ∀ (r0 : Nat) (x1 : Int32) (x2 : Int32) (x3 : Int32) (x4 : Int32) (x5 : Int32) (x6 : Int32) (s0 : Int32) (s1 : Int32) (M : am_M), rc 6 r0 x1 x2 x3 x4 x5 x6 s0 s1 M = some res → AW u_Model_holds R_Model_holds 0 0 136 [(0, .ref r0), (1, .int x1), (2, .int x2), (3, .int x3), (5, .int x5)] [.int s0] M (fun r M2 => r = .inl (some (.int res)) ∧ M2 = M)) (ih_7 : ∀ (r0 : Nat) (x1 : Int32) (x2 : Int32) (x3 : Int32) (x4 : Int32) (x5 : Int32) (x6 : Int32) (s0 : Int32) (s1 : Int32) (M : am_M), rc 7 r0 x1 x2 x3 x4 x5 x6 s0 s1 M = some res → AW u_Model_holds R_Model_holds 0 0 138 [(0, .ref r0), (1, .int x1), (2, .int x2), (3, .int x3), (4, .int x4), (5, .int x5)] [] M (fun r M2 => r = .inl (some (.int res)) ∧ M2 = M)) (ih_8 : ∀ (r0 : Nat) (x1 : Int32) (x2 : Int32) (x3 : Int32) (x4 : Int32) (x5 : Int32) (x6 : Int32) (s0 : Int32) (s1 : Int32) (M : am_M), rc 8 r0 x1 x2 x3 x4 x5 x6 s0 s1 M = some res → AW u_Model_holds R_Model_holds 0 0 141 [(0, .ref r0), (1, .int x1), (2, .int x2), (3, .int x3), (4, .int x4), (5, .int x5), (6, .int x6)] [] M (fun r M2 => r = .inl (some (.int res)) ∧ M2 = M)) (ih_9 : ∀ (r0 : Nat) (x1 : Int32) (x2 : Int32) (x3 : Int32) (x4 : Int32) (x5 : Int32) (x6 : Int32) (s0 : Int32) (s1 : Int32) (M : am_M), rc 9 r0 x1 x2 x3 x4 x5 x6 s0 s1 M = some res → AW u_Model_holds R_Model_holds 0 0 196 [(0, .ref r0), (1, .int x1), (2, .int x2), (4, .int x4), (5, .int x5), (6, .int x6)] [.int s0, .int s1] M (fun r M2 => r = .inl (some (.int res)) ∧ M2 = M)) (ih_10 : ∀ (r0 : Nat) (x1 : Int32) (x2 : Int32) (x3 : Int32) (x4 : Int32) (x5 : Int32) (x6 : Int32) (s0 : Int32) (s1 : Int32) (M : am_M), rc 10 r0 x1 x2 x3 x4 x5 x6 s0 s1 M = some res → AW u_Model_holds R_Model_holds 0 0 204 [(0, .ref r0), (1, .int x1), (2, .int x2), (3, .int x3), (4, .int x4), (5, .int x5)] [] M (fun r M2 => r = .inl (some (.int res)) ∧ M2 = M)) (ih_11 : ∀ (r0 : Nat) (x1 : Int32) (x2 : Int32) (x3 : Int32) (x4 : Int32) (x5 : Int32) (x6 : Int32) (s0 : Int32) (s1 : Int32) (M : am_M), rc 11 r0 x1 x2 x3 x4 x5 x6 s0 s1 M = some res → AW u_Model_holds R_Model_holds 0 0 240 [] [.int s0, .int s1] M (fun r M2 => r = .inl (some (.int res)) ∧ M2 = M)) : ∀ (r0 : Nat) (x1 : Int32) (x2 : Int32) (x3 : Int32) (x4 : Int32) (x5 : Int32) (x6 : Int32) (s0 : Int32) (s1 : Int32) (M : am_M), a_Model_holds_8 rc r0 x1 x2 x3 x4 x5 x6 s0 s1 M = some res → AW u_Model_holds R_Model_holds 0 0 141 [(0, .ref r0), (1, .int x1), (2, .int x2), (3, .int x3), (4, .int x4), (5, .int x5), (6, .int x6)] [] M (fun r M2 => r = .inl (some (.int res)) ∧ M2 = M) := by
  intro r0 x1 x2 x3 x4 x5 x6 s0 s1 M h
  unfold a_Model_holds_8 at h
  refine aw_iload d_Model_holds_141 rfl ?_
  refine aw_aload_n d_Model_holds_143 rfl rfl ?_
  obtain ⟨t144, e_t144, h⟩ := q_bind h
  refine aw_gtr d_Model_holds_144 fl_Model_109 (Or.inr ⟨_, rfl⟩) e_t144 ?_
  refine aw_iload d_Model_holds_147 rfl ?_
  obtain ⟨t149, e_t149, h⟩ := q_bind h
  refine aw_ldi d_Model_holds_149 e_t149 ?_
  refine aw_icmp_ge (tgt := 204) d_Model_holds_150 (by decide) (fun hc => ?_) (fun hc => ?_)
  · rw [if_pos hc] at h
    exact aw_pick [0, 1, 2, 3, 4, 5] rfl (ih_10 _ _ _ _ _ _ _ _ _ _ h)
  · rw [if_neg hc] at h
    refine aw_aload_n d_Model_holds_153 rfl rfl ?_
    obtain ⟨t154, e_t154, h⟩ := q_bind h
    refine aw_gtr d_Model_holds_154 fl_Model_69 (Or.inr ⟨_, rfl⟩) e_t154 ?_
    refine aw_iload_n d_Model_holds_157 rfl rfl ?_
    obtain ⟨t158, e_t158, h⟩ := q_bind h
    refine aw_ldi d_Model_holds_158 e_t158 ?_
    refine aw_iconst (v := 1) d_Model_holds_159 (by decide) ?_
    refine aw_icmp_ne (tgt := 204) d_Model_holds_160 (by decide) (fun hc => ?_) (fun hc => ?_)
    · rw [if_neg hc] at h
      exact aw_pick [0, 1, 2, 3, 4, 5] rfl (ih_10 _ _ _ _ _ _ _ _ _ _ h)
    · rw [if_pos hc] at h
      refine aw_iload_n d_Model_holds_163 rfl rfl ?_
      refine aw_aload_n d_Model_holds_164 rfl rfl ?_
      obtain ⟨t165, e_t165, h⟩ := q_bind h
      refine aw_gtr d_Model_holds_165 fl_Model_33 (Or.inr ⟨_, rfl⟩) e_t165 ?_
      refine aw_aload_n d_Model_holds_168 rfl rfl ?_
      obtain ⟨t169, e_t169, h⟩ := q_bind h
      refine aw_gtr d_Model_holds_169 fl_Model_106 (Or.inr ⟨_, rfl⟩) e_t169 ?_
      refine aw_bipush (v := 8) d_Model_holds_172 (by decide) ?_
      refine aw_iload d_Model_holds_174 rfl ?_
      refine aw_imul d_Model_holds_176 ?_
      refine aw_iload d_Model_holds_177 rfl ?_
      refine aw_iadd d_Model_holds_179 ?_
      obtain ⟨t180, e_t180, h⟩ := q_bind h
      refine aw_ldi d_Model_holds_180 e_t180 ?_
      obtain ⟨t181, e_t181, h⟩ := q_bind h
      refine aw_ldi d_Model_holds_181 e_t181 ?_
      refine aw_aload_n d_Model_holds_182 rfl rfl ?_
      obtain ⟨t183, e_t183, h⟩ := q_bind h
      refine aw_gtr d_Model_holds_183 fl_Model_72 (Or.inr ⟨_, rfl⟩) e_t183 ?_
      refine aw_iload_n d_Model_holds_186 rfl rfl ?_
      obtain ⟨t187, e_t187, h⟩ := q_bind h
      refine aw_ldi d_Model_holds_187 e_t187 ?_
      refine aw_icmp_ne (tgt := 195) d_Model_holds_188 (by decide) (fun hc => ?_) (fun hc => ?_)
      · rw [if_neg hc] at h
        refine aw_iconst (v := 0) d_Model_holds_195 (by decide) ?_
        exact aw_pick [0, 1, 2, 4, 5, 6] rfl (ih_9 _ _ _ _ _ _ _ _ _ _ h)
      · rw [if_pos hc] at h
        refine aw_iconst (v := 1) d_Model_holds_191 (by decide) ?_
        refine aw_goto (tgt := 196) d_Model_holds_192 (by decide) ?_
        exact aw_pick [0, 1, 2, 4, 5, 6] rfl (ih_9 _ _ _ _ _ _ _ _ _ _ h)
set_option maxHeartbeats 4000000 in
theorem s_Model_holds_9 {rc : Nat → Nat → Int32 → Int32 → Int32 → Int32 → Int32 → Int32 → Int32 → Int32 → am_M → Option (Int32)} {res : Int32} (ih_0 : ∀ (r0 : Nat) (x1 : Int32) (x2 : Int32) (x3 : Int32) (x4 : Int32) (x5 : Int32) (x6 : Int32) (s0 : Int32) (s1 : Int32) (M : am_M), rc 0 r0 x1 x2 x3 x4 x5 x6 s0 s1 M = some res → AW u_Model_holds R_Model_holds 0 0 8 [(0, .ref r0), (1, .int x1), (2, .int x2), (3, .int x3), (4, .int x4), (5, .int x5)] [] M (fun r M2 => r = .inl (some (.int res)) ∧ M2 = M)) (ih_1 : ∀ (r0 : Nat) (x1 : Int32) (x2 : Int32) (x3 : Int32) (x4 : Int32) (x5 : Int32) (x6 : Int32) (s0 : Int32) (s1 : Int32) (M : am_M), rc 1 r0 x1 x2 x3 x4 x5 x6 s0 s1 M = some res → AW u_Model_holds R_Model_holds 0 0 65 [(0, .ref r0), (1, .int x1), (2, .int x2), (3, .int x3), (5, .int x5)] [] M (fun r M2 => r = .inl (some (.int res)) ∧ M2 = M)) (ih_2 : ∀ (r0 : Nat) (x1 : Int32) (x2 : Int32) (x3 : Int32) (x4 : Int32) (x5 : Int32) (x6 : Int32) (s0 : Int32) (s1 : Int32) (M : am_M), rc 2 r0 x1 x2 x3 x4 x5 x6 s0 s1 M = some res → AW u_Model_holds R_Model_holds 0 0 70 [(0, .ref r0), (1, .int x1), (2, .int x2), (3, .int x3), (5, .int x5)] [.int s0] M (fun r M2 => r = .inl (some (.int res)) ∧ M2 = M)) (ih_3 : ∀ (r0 : Nat) (x1 : Int32) (x2 : Int32) (x3 : Int32) (x4 : Int32) (x5 : Int32) (x6 : Int32) (s0 : Int32) (s1 : Int32) (M : am_M), rc 3 r0 x1 x2 x3 x4 x5 x6 s0 s1 M = some res → AW u_Model_holds R_Model_holds 0 0 72 [(0, .ref r0), (1, .int x1), (2, .int x2), (3, .int x3), (4, .int x4), (5, .int x5)] [] M (fun r M2 => r = .inl (some (.int res)) ∧ M2 = M)) (ih_4 : ∀ (r0 : Nat) (x1 : Int32) (x2 : Int32) (x3 : Int32) (x4 : Int32) (x5 : Int32) (x6 : Int32) (s0 : Int32) (s1 : Int32) (M : am_M), rc 4 r0 x1 x2 x3 x4 x5 x6 s0 s1 M = some res → AW u_Model_holds R_Model_holds 0 0 131 [(0, .ref r0), (1, .int x1), (2, .int x2), (3, .int x3), (5, .int x5)] [] M (fun r M2 => r = .inl (some (.int res)) ∧ M2 = M)) (ih_5 : ∀ (r0 : Nat) (x1 : Int32) (x2 : Int32) (x3 : Int32) (x4 : Int32) (x5 : Int32) (x6 : Int32) (s0 : Int32) (s1 : Int32) (M : am_M), rc 5 r0 x1 x2 x3 x4 x5 x6 s0 s1 M = some res → AW u_Model_holds R_Model_holds 0 0 135 [(0, .ref r0), (1, .int x1), (2, .int x2), (3, .int x3), (5, .int x5)] [] M (fun r M2 => r = .inl (some (.int res)) ∧ M2 = M)) (ih_6 : ∀ (r0 : Nat) (x1 : Int32) (x2 : Int32) (x3 : Int32) (x4 : Int32) (x5 : Int32) (x6 : Int32) (s0 : Int32) (s1 : Int32) (M : am_M), rc 6 r0 x1 x2 x3 x4 x5 x6 s0 s1 M = some res → AW u_Model_holds R_Model_holds 0 0 136 [(0, .ref r0), (1, .int x1), (2, .int x2), (3, .int x3), (5, .int x5)] [.int s0] M (fun r M2 => r = .inl (some (.int res)) ∧ M2 = M)) (ih_7 : ∀ (r0 : Nat) (x1 : Int32) (x2 : Int32) (x3 : Int32) (x4 : Int32) (x5 : Int32) (x6 : Int32) (s0 : Int32) (s1 : Int32) (M : am_M), rc 7 r0 x1 x2 x3 x4 x5 x6 s0 s1 M = some res → AW u_Model_holds R_Model_holds 0 0 138 [(0, .ref r0), (1, .int x1), (2, .int x2), (3, .int x3), (4, .int x4), (5, .int x5)] [] M (fun r M2 => r = .inl (some (.int res)) ∧ M2 = M)) (ih_8 : ∀ (r0 : Nat) (x1 : Int32) (x2 : Int32) (x3 : Int32) (x4 : Int32) (x5 : Int32) (x6 : Int32) (s0 : Int32) (s1 : Int32) (M : am_M), rc 8 r0 x1 x2 x3 x4 x5 x6 s0 s1 M = some res → AW u_Model_holds R_Model_holds 0 0 141 [(0, .ref r0), (1, .int x1), (2, .int x2), (3, .int x3), (4, .int x4), (5, .int x5), (6, .int x6)] [] M (fun r M2 => r = .inl (some (.int res)) ∧ M2 = M)) (ih_9 : ∀ (r0 : Nat) (x1 : Int32) (x2 : Int32) (x3 : Int32) (x4 : Int32) (x5 : Int32) (x6 : Int32) (s0 : Int32) (s1 : Int32) (M : am_M), rc 9 r0 x1 x2 x3 x4 x5 x6 s0 s1 M = some res → AW u_Model_holds R_Model_holds 0 0 196 [(0, .ref r0), (1, .int x1), (2, .int x2), (4, .int x4), (5, .int x5), (6, .int x6)] [.int s0, .int s1] M (fun r M2 => r = .inl (some (.int res)) ∧ M2 = M)) (ih_10 : ∀ (r0 : Nat) (x1 : Int32) (x2 : Int32) (x3 : Int32) (x4 : Int32) (x5 : Int32) (x6 : Int32) (s0 : Int32) (s1 : Int32) (M : am_M), rc 10 r0 x1 x2 x3 x4 x5 x6 s0 s1 M = some res → AW u_Model_holds R_Model_holds 0 0 204 [(0, .ref r0), (1, .int x1), (2, .int x2), (3, .int x3), (4, .int x4), (5, .int x5)] [] M (fun r M2 => r = .inl (some (.int res)) ∧ M2 = M)) (ih_11 : ∀ (r0 : Nat) (x1 : Int32) (x2 : Int32) (x3 : Int32) (x4 : Int32) (x5 : Int32) (x6 : Int32) (s0 : Int32) (s1 : Int32) (M : am_M), rc 11 r0 x1 x2 x3 x4 x5 x6 s0 s1 M = some res → AW u_Model_holds R_Model_holds 0 0 240 [] [.int s0, .int s1] M (fun r M2 => r = .inl (some (.int res)) ∧ M2 = M)) : ∀ (r0 : Nat) (x1 : Int32) (x2 : Int32) (x3 : Int32) (x4 : Int32) (x5 : Int32) (x6 : Int32) (s0 : Int32) (s1 : Int32) (M : am_M), a_Model_holds_9 rc r0 x1 x2 x3 x4 x5 x6 s0 s1 M = some res → AW u_Model_holds R_Model_holds 0 0 196 [(0, .ref r0), (1, .int x1), (2, .int x2), (4, .int x4), (5, .int x5), (6, .int x6)] [.int s0, .int s1] M (fun r M2 => r = .inl (some (.int res)) ∧ M2 = M) := by
  intro r0 x1 x2 x3 x4 x5 x6 s0 s1 M h
  unfold a_Model_holds_9 at h
  refine aw_iadd d_Model_holds_196 ?_
  refine aw_istore_n (ls' := [(3, .int _), (0, .ref _), (1, .int _), (2, .int _), (4, .int _), (5, .int _), (6, .int _)]) d_Model_holds_197 rfl (Nat.le_of_ble_eq_true rfl) rfl ?_
  refine aw_iinc (v := (x6 + (1 : Int32))) (ls' := [(6, .int _), (3, .int _), (0, .ref _), (1, .int _), (2, .int _), (4, .int _), (5, .int _)]) d_Model_holds_198 rfl rfl (Nat.le_of_ble_eq_true rfl) rfl ?_
  refine aw_goto (tgt := 141) d_Model_holds_201 (by decide) ?_
  exact aw_pick [2, 3, 4, 1, 5, 6, 0] rfl (ih_8 _ _ _ _ _ _ _ _ _ _ h)
set_option maxHeartbeats 4000000 in
theorem s_Model_holds_10 {rc : Nat → Nat → Int32 → Int32 → Int32 → Int32 → Int32 → Int32 → Int32 → Int32 → am_M → Option (Int32)} {res : Int32} (ih_0 : ∀ (r0 : Nat) (x1 : Int32) (x2 : Int32) (x3 : Int32) (x4 : Int32) (x5 : Int32) (x6 : Int32) (s0 : Int32) (s1 : Int32) (M : am_M), rc 0 r0 x1 x2 x3 x4 x5 x6 s0 s1 M = some res → AW u_Model_holds R_Model_holds 0 0 8 [(0, .ref r0), (1, .int x1), (2, .int x2), (3, .int x3), (4, .int x4), (5, .int x5)] [] M (fun r M2 => r = .inl (some (.int res)) ∧ M2 = M)) (ih_1 : ∀ (r0 : Nat) (x1 : Int32) (x2 : Int32) (x3 : Int32) (x4 : Int32) (x5 : Int32) (x6 : Int32) (s0 : Int32) (s1 : Int32) (M : am_M), rc 1 r0 x1 x2 x3 x4 x5 x6 s0 s1 M = some res → AW u_Model_holds R_Model_holds 0 0 65 [(0, .ref r0), (1, .int x1), (2, .int x2), (3, .int x3), (5, .int x5)] [] M (fun r M2 => r = .inl (some (.int res)) ∧ M2 = M)) (ih_2 : ∀ (r0 : Nat) (x1 : Int32) (x2 : Int32) (x3 : Int32) (x4 : Int32) (x5 : Int32) (x6 : Int32) (s0 : Int32) (s1 : Int32) (M : am_M), rc 2 r0 x1 x2 x3 x4 x5 x6 s0 s1 M = some res → AW u_Model_holds R_Model_holds 0 0 70 [(0, .ref r0), (1, .int x1), (2, .int x2), (3, .int x3), (5, .int x5)] [.int s0] M (fun r M2 => r = .inl (some (.int res)) ∧ M2 = M)) (ih_3 : ∀ (r0 : Nat) (x1 : Int32) (x2 : Int32) (x3 : Int32) (x4 : Int32) (x5 : Int32) (x6 : Int32) (s0 : Int32) (s1 : Int32) (M : am_M), rc 3 r0 x1 x2 x3 x4 x5 x6 s0 s1 M = some res → AW u_Model_holds R_Model_holds 0 0 72 [(0, .ref r0), (1, .int x1), (2, .int x2), (3, .int x3), (4, .int x4), (5, .int x5)] [] M (fun r M2 => r = .inl (some (.int res)) ∧ M2 = M)) (ih_4 : ∀ (r0 : Nat) (x1 : Int32) (x2 : Int32) (x3 : Int32) (x4 : Int32) (x5 : Int32) (x6 : Int32) (s0 : Int32) (s1 : Int32) (M : am_M), rc 4 r0 x1 x2 x3 x4 x5 x6 s0 s1 M = some res → AW u_Model_holds R_Model_holds 0 0 131 [(0, .ref r0), (1, .int x1), (2, .int x2), (3, .int x3), (5, .int x5)] [] M (fun r M2 => r = .inl (some (.int res)) ∧ M2 = M)) (ih_5 : ∀ (r0 : Nat) (x1 : Int32) (x2 : Int32) (x3 : Int32) (x4 : Int32) (x5 : Int32) (x6 : Int32) (s0 : Int32) (s1 : Int32) (M : am_M), rc 5 r0 x1 x2 x3 x4 x5 x6 s0 s1 M = some res → AW u_Model_holds R_Model_holds 0 0 135 [(0, .ref r0), (1, .int x1), (2, .int x2), (3, .int x3), (5, .int x5)] [] M (fun r M2 => r = .inl (some (.int res)) ∧ M2 = M)) (ih_6 : ∀ (r0 : Nat) (x1 : Int32) (x2 : Int32) (x3 : Int32) (x4 : Int32) (x5 : Int32) (x6 : Int32) (s0 : Int32) (s1 : Int32) (M : am_M), rc 6 r0 x1 x2 x3 x4 x5 x6 s0 s1 M = some res → AW u_Model_holds R_Model_holds 0 0 136 [(0, .ref r0), (1, .int x1), (2, .int x2), (3, .int x3), (5, .int x5)] [.int s0] M (fun r M2 => r = .inl (some (.int res)) ∧ M2 = M)) (ih_7 : ∀ (r0 : Nat) (x1 : Int32) (x2 : Int32) (x3 : Int32) (x4 : Int32) (x5 : Int32) (x6 : Int32) (s0 : Int32) (s1 : Int32) (M : am_M), rc 7 r0 x1 x2 x3 x4 x5 x6 s0 s1 M = some res → AW u_Model_holds R_Model_holds 0 0 138 [(0, .ref r0), (1, .int x1), (2, .int x2), (3, .int x3), (4, .int x4), (5, .int x5)] [] M (fun r M2 => r = .inl (some (.int res)) ∧ M2 = M)) (ih_8 : ∀ (r0 : Nat) (x1 : Int32) (x2 : Int32) (x3 : Int32) (x4 : Int32) (x5 : Int32) (x6 : Int32) (s0 : Int32) (s1 : Int32) (M : am_M), rc 8 r0 x1 x2 x3 x4 x5 x6 s0 s1 M = some res → AW u_Model_holds R_Model_holds 0 0 141 [(0, .ref r0), (1, .int x1), (2, .int x2), (3, .int x3), (4, .int x4), (5, .int x5), (6, .int x6)] [] M (fun r M2 => r = .inl (some (.int res)) ∧ M2 = M)) (ih_9 : ∀ (r0 : Nat) (x1 : Int32) (x2 : Int32) (x3 : Int32) (x4 : Int32) (x5 : Int32) (x6 : Int32) (s0 : Int32) (s1 : Int32) (M : am_M), rc 9 r0 x1 x2 x3 x4 x5 x6 s0 s1 M = some res → AW u_Model_holds R_Model_holds 0 0 196 [(0, .ref r0), (1, .int x1), (2, .int x2), (4, .int x4), (5, .int x5), (6, .int x6)] [.int s0, .int s1] M (fun r M2 => r = .inl (some (.int res)) ∧ M2 = M)) (ih_10 : ∀ (r0 : Nat) (x1 : Int32) (x2 : Int32) (x3 : Int32) (x4 : Int32) (x5 : Int32) (x6 : Int32) (s0 : Int32) (s1 : Int32) (M : am_M), rc 10 r0 x1 x2 x3 x4 x5 x6 s0 s1 M = some res → AW u_Model_holds R_Model_holds 0 0 204 [(0, .ref r0), (1, .int x1), (2, .int x2), (3, .int x3), (4, .int x4), (5, .int x5)] [] M (fun r M2 => r = .inl (some (.int res)) ∧ M2 = M)) (ih_11 : ∀ (r0 : Nat) (x1 : Int32) (x2 : Int32) (x3 : Int32) (x4 : Int32) (x5 : Int32) (x6 : Int32) (s0 : Int32) (s1 : Int32) (M : am_M), rc 11 r0 x1 x2 x3 x4 x5 x6 s0 s1 M = some res → AW u_Model_holds R_Model_holds 0 0 240 [] [.int s0, .int s1] M (fun r M2 => r = .inl (some (.int res)) ∧ M2 = M)) : ∀ (r0 : Nat) (x1 : Int32) (x2 : Int32) (x3 : Int32) (x4 : Int32) (x5 : Int32) (x6 : Int32) (s0 : Int32) (s1 : Int32) (M : am_M), a_Model_holds_10 rc r0 x1 x2 x3 x4 x5 x6 s0 s1 M = some res → AW u_Model_holds R_Model_holds 0 0 204 [(0, .ref r0), (1, .int x1), (2, .int x2), (3, .int x3), (4, .int x4), (5, .int x5)] [] M (fun r M2 => r = .inl (some (.int res)) ∧ M2 = M) := by
  intro r0 x1 x2 x3 x4 x5 x6 s0 s1 M h
  unfold a_Model_holds_10 at h
  refine aw_iinc (v := (x5 + (1 : Int32))) (ls' := [(5, .int _), (0, .ref _), (1, .int _), (2, .int _), (3, .int _), (4, .int _)]) d_Model_holds_204 rfl rfl (Nat.le_of_ble_eq_true rfl) rfl ?_
  refine aw_goto (tgt := 8) d_Model_holds_207 (by decide) ?_
  exact aw_pick [1, 2, 3, 4, 5, 0] rfl (ih_0 _ _ _ _ _ _ _ _ _ _ h)
set_option maxHeartbeats 4000000 in
theorem s_Model_holds_11 {rc : Nat → Nat → Int32 → Int32 → Int32 → Int32 → Int32 → Int32 → Int32 → Int32 → am_M → Option (Int32)} {res : Int32} (ih_0 : ∀ (r0 : Nat) (x1 : Int32) (x2 : Int32) (x3 : Int32) (x4 : Int32) (x5 : Int32) (x6 : Int32) (s0 : Int32) (s1 : Int32) (M : am_M), rc 0 r0 x1 x2 x3 x4 x5 x6 s0 s1 M = some res → AW u_Model_holds R_Model_holds 0 0 8 [(0, .ref r0), (1, .int x1), (2, .int x2), (3, .int x3), (4, .int x4), (5, .int x5)] [] M (fun r M2 => r = .inl (some (.int res)) ∧ M2 = M)) (ih_1 : ∀ (r0 : Nat) (x1 : Int32) (x2 : Int32) (x3 : Int32) (x4 : Int32) (x5 : Int32) (x6 : Int32) (s0 : Int32) (s1 : Int32) (M : am_M), rc 1 r0 x1 x2 x3 x4 x5 x6 s0 s1 M = some res → AW u_Model_holds R_Model_holds 0 0 65 [(0, .ref r0), (1, .int x1), (2, .int x2), (3, .int x3), (5, .int x5)] [] M (fun r M2 => r = .inl (some (.int res)) ∧ M2 = M)) (ih_2 : ∀ (r0 : Nat) (x1 : Int32) (x2 : Int32) (x3 : Int32) (x4 : Int32) (x5 : Int32) (x6 : Int32) (s0 : Int32) (s1 : Int32) (M : am_M), rc 2 r0 x1 x2 x3 x4 x5 x6 s0 s1 M = some res → AW u_Model_holds R_Model_holds 0 0 70 [(0, .ref r0), (1, .int x1), (2, .int x2), (3, .int x3), (5, .int x5)] [.int s0] M (fun r M2 => r = .inl (some (.int res)) ∧ M2 = M)) (ih_3 : ∀ (r0 : Nat) (x1 : Int32) (x2 : Int32) (x3 : Int32) (x4 : Int32) (x5 : Int32) (x6 : Int32) (s0 : Int32) (s1 : Int32) (M : am_M), rc 3 r0 x1 x2 x3 x4 x5 x6 s0 s1 M = some res → AW u_Model_holds R_Model_holds 0 0 72 [(0, .ref r0), (1, .int x1), (2, .int x2), (3, .int x3), (4, .int x4), (5, .int x5)] [] M (fun r M2 => r = .inl (some (.int res)) ∧ M2 = M)) (ih_4 : ∀ (r0 : Nat) (x1 : Int32) (x2 : Int32) (x3 : Int32) (x4 : Int32) (x5 : Int32) (x6 : Int32) (s0 : Int32) (s1 : Int32) (M : am_M), rc 4 r0 x1 x2 x3 x4 x5 x6 s0 s1 M = some res → AW u_Model_holds R_Model_holds 0 0 131 [(0, .ref r0), (1, .int x1), (2, .int x2), (3, .int x3), (5, .int x5)] [] M (fun r M2 => r = .inl (some (.int res)) ∧ M2 = M)) (ih_5 : ∀ (r0 : Nat) (x1 : Int32) (x2 : Int32) (x3 : Int32) (x4 : Int32) (x5 : Int32) (x6 : Int32) (s0 : Int32) (s1 : Int32) (M : am_M), rc 5 r0 x1 x2 x3 x4 x5 x6 s0 s1 M = some res → AW u_Model_holds R_Model_holds 0 0 135 [(0, .ref r0), (1, .int x1), (2, .int x2), (3, .int x3), (5, .int x5)] [] M (fun r M2 => r = .inl (some (.int res)) ∧ M2 = M)) (ih_6 : ∀ (r0 : Nat) (x1 : Int32) (x2 : Int32) (x3 : Int32) (x4 : Int32) (x5 : Int32) (x6 : Int32) (s0 : Int32) (s1 : Int32) (M : am_M), rc 6 r0 x1 x2 x3 x4 x5 x6 s0 s1 M = some res → AW u_Model_holds R_Model_holds 0 0 136 [(0, .ref r0), (1, .int x1), (2, .int x2), (3, .int x3), (5, .int x5)] [.int s0] M (fun r M2 => r = .inl (some (.int res)) ∧ M2 = M)) (ih_7 : ∀ (r0 : Nat) (x1 : Int32) (x2 : Int32) (x3 : Int32) (x4 : Int32) (x5 : Int32) (x6 : Int32) (s0 : Int32) (s1 : Int32) (M : am_M), rc 7 r0 x1 x2 x3 x4 x5 x6 s0 s1 M = some res → AW u_Model_holds R_Model_holds 0 0 138 [(0, .ref r0), (1, .int x1), (2, .int x2), (3, .int x3), (4, .int x4), (5, .int x5)] [] M (fun r M2 => r = .inl (some (.int res)) ∧ M2 = M)) (ih_8 : ∀ (r0 : Nat) (x1 : Int32) (x2 : Int32) (x3 : Int32) (x4 : Int32) (x5 : Int32) (x6 : Int32) (s0 : Int32) (s1 : Int32) (M : am_M), rc 8 r0 x1 x2 x3 x4 x5 x6 s0 s1 M = some res → AW u_Model_holds R_Model_holds 0 0 141 [(0, .ref r0), (1, .int x1), (2, .int x2), (3, .int x3), (4, .int x4), (5, .int x5), (6, .int x6)] [] M (fun r M2 => r = .inl (some (.int res)) ∧ M2 = M)) (ih_9 : ∀ (r0 : Nat) (x1 : Int32) (x2 : Int32) (x3 : Int32) (x4 : Int32) (x5 : Int32) (x6 : Int32) (s0 : Int32) (s1 : Int32) (M : am_M), rc 9 r0 x1 x2 x3 x4 x5 x6 s0 s1 M = some res → AW u_Model_holds R_Model_holds 0 0 196 [(0, .ref r0), (1, .int x1), (2, .int x2), (4, .int x4), (5, .int x5), (6, .int x6)] [.int s0, .int s1] M (fun r M2 => r = .inl (some (.int res)) ∧ M2 = M)) (ih_10 : ∀ (r0 : Nat) (x1 : Int32) (x2 : Int32) (x3 : Int32) (x4 : Int32) (x5 : Int32) (x6 : Int32) (s0 : Int32) (s1 : Int32) (M : am_M), rc 10 r0 x1 x2 x3 x4 x5 x6 s0 s1 M = some res → AW u_Model_holds R_Model_holds 0 0 204 [(0, .ref r0), (1, .int x1), (2, .int x2), (3, .int x3), (4, .int x4), (5, .int x5)] [] M (fun r M2 => r = .inl (some (.int res)) ∧ M2 = M)) (ih_11 : ∀ (r0 : Nat) (x1 : Int32) (x2 : Int32) (x3 : Int32) (x4 : Int32) (x5 : Int32) (x6 : Int32) (s0 : Int32) (s1 : Int32) (M : am_M), rc 11 r0 x1 x2 x3 x4 x5 x6 s0 s1 M = some res → AW u_Model_holds R_Model_holds 0 0 240 [] [.int s0, .int s1] M (fun r M2 => r = .inl (some (.int res)) ∧ M2 = M)) : ∀ (r0 : Nat) (x1 : Int32) (x2 : Int32) (x3 : Int32) (x4 : Int32) (x5 : Int32) (x6 : Int32) (s0 : Int32) (s1 : Int32) (M : am_M), a_Model_holds_11 rc r0 x1 x2 x3 x4 x5 x6 s0 s1 M = some res → AW u_Model_holds R_Model_holds 0 0 240 [] [.int s0, .int s1] M (fun r M2 => r = .inl (some (.int res)) ∧ M2 = M) := by
  intro r0 x1 x2 x3 x4 x5 x6 s0 s1 M h
  unfold a_Model_holds_11 at h
  refine aw_icmp_ne (tgt := 247) d_Model_holds_240 (by decide) (fun hc => ?_) (fun hc => ?_)
  · rw [if_neg hc] at h
    refine aw_iconst (v := 0) d_Model_holds_247 (by decide) ?_
    cases h
    exact aw_ireturn d_Model_holds_248 rfl (Nat.le_of_ble_eq_true rfl) (Nat.le_of_ble_eq_true rfl) ⟨rfl, rfl⟩
  · rw [if_pos hc] at h
    refine aw_iconst (v := 1) d_Model_holds_243 (by decide) ?_
    refine aw_goto (tgt := 248) d_Model_holds_244 (by decide) ?_
    cases h
    exact aw_ireturn d_Model_holds_248 rfl (Nat.le_of_ble_eq_true rfl) (Nat.le_of_ble_eq_true rfl) ⟨rfl, rfl⟩
theorem l_Model_holds {res : Int32} : ∀ F : Nat, (∀ (r0 : Nat) (x1 : Int32) (x2 : Int32) (x3 : Int32) (x4 : Int32) (x5 : Int32) (x6 : Int32) (s0 : Int32) (s1 : Int32) (M : am_M), g_Model_holds F 0 r0 x1 x2 x3 x4 x5 x6 s0 s1 M = some res → AW u_Model_holds R_Model_holds 0 0 8 [(0, .ref r0), (1, .int x1), (2, .int x2), (3, .int x3), (4, .int x4), (5, .int x5)] [] M (fun r M2 => r = .inl (some (.int res)) ∧ M2 = M)) ∧ (∀ (r0 : Nat) (x1 : Int32) (x2 : Int32) (x3 : Int32) (x4 : Int32) (x5 : Int32) (x6 : Int32) (s0 : Int32) (s1 : Int32) (M : am_M), g_Model_holds F 1 r0 x1 x2 x3 x4 x5 x6 s0 s1 M = some res → AW u_Model_holds R_Model_holds 0 0 65 [(0, .ref r0), (1, .int x1), (2, .int x2), (3, .int x3), (5, .int x5)] [] M (fun r M2 => r = .inl (some (.int res)) ∧ M2 = M)) ∧ (∀ (r0 : Nat) (x1 : Int32) (x2 : Int32) (x3 : Int32) (x4 : Int32) (x5 : Int32) (x6 : Int32) (s0 : Int32) (s1 : Int32) (M : am_M), g_Model_holds F 2 r0 x1 x2 x3 x4 x5 x6 s0 s1 M = some res → AW u_Model_holds R_Model_holds 0 0 70 [(0, .ref r0), (1, .int x1), (2, .int x2), (3, .int x3), (5, .int x5)] [.int s0] M (fun r M2 => r = .inl (some (.int res)) ∧ M2 = M)) ∧ (∀ (r0 : Nat) (x1 : Int32) (x2 : Int32) (x3 : Int32) (x4 : Int32) (x5 : Int32) (x6 : Int32) (s0 : Int32) (s1 : Int32) (M : am_M), g_Model_holds F 3 r0 x1 x2 x3 x4 x5 x6 s0 s1 M = some res → AW u_Model_holds R_Model_holds 0 0 72 [(0, .ref r0), (1, .int x1), (2, .int x2), (3, .int x3), (4, .int x4), (5, .int x5)] [] M (fun r M2 => r = .inl (some (.int res)) ∧ M2 = M)) ∧ (∀ (r0 : Nat) (x1 : Int32) (x2 : Int32) (x3 : Int32) (x4 : Int32) (x5 : Int32) (x6 : Int32) (s0 : Int32) (s1 : Int32) (M : am_M), g_Model_holds F 4 r0 x1 x2 x3 x4 x5 x6 s0 s1 M = some res → AW u_Model_holds R_Model_holds 0 0 131 [(0, .ref r0), (1, .int x1), (2, .int x2), (3, .int x3), (5, .int x5)] [] M (fun r M2 => r = .inl (some (.int res)) ∧ M2 = M)) ∧ (∀ (r0 : Nat) (x1 : Int32) (x2 : Int32) (x3 : Int32) (x4 : Int32) (x5 : Int32) (x6 : Int32) (s0 : Int32) (s1 : Int32) (M : am_M), g_Model_holds F 5 r0 x1 x2 x3 x4 x5 x6 s0 s1 M = some res → AW u_Model_holds R_Model_holds 0 0 135 [(0, .ref r0), (1, .int x1), (2, .int x2), (3, .int x3), (5, .int x5)] [] M (fun r M2 => r = .inl (some (.int res)) ∧ M2 = M)) ∧ (∀ (r0 : Nat) (x1 : Int32) (x2 : Int32) (x3 : Int32) (x4 : Int32) (x5 : Int32) (x6 : Int32) (s0 : Int32) (s1 : Int32) (M : am_M), g_Model_holds F 6 r0 x1 x2 x3 x4 x5 x6 s0 s1 M = some res → AW u_Model_holds R_Model_holds 0 0 136 [(0, .ref r0), (1, .int x1), (2, .int x2), (3, .int x3), (5, .int x5)] [.int s0] M (fun r M2 => r = .inl (some (.int res)) ∧ M2 = M)) ∧ (∀ (r0 : Nat) (x1 : Int32) (x2 : Int32) (x3 : Int32) (x4 : Int32) (x5 : Int32) (x6 : Int32) (s0 : Int32) (s1 : Int32) (M : am_M), g_Model_holds F 7 r0 x1 x2 x3 x4 x5 x6 s0 s1 M = some res → AW u_Model_holds R_Model_holds 0 0 138 [(0, .ref r0), (1, .int x1), (2, .int x2), (3, .int x3), (4, .int x4), (5, .int x5)] [] M (fun r M2 => r = .inl (some (.int res)) ∧ M2 = M)) ∧ (∀ (r0 : Nat) (x1 : Int32) (x2 : Int32) (x3 : Int32) (x4 : Int32) (x5 : Int32) (x6 : Int32) (s0 : Int32) (s1 : Int32) (M : am_M), g_Model_holds F 8 r0 x1 x2 x3 x4 x5 x6 s0 s1 M = some res → AW u_Model_holds R_Model_holds 0 0 141 [(0, .ref r0), (1, .int x1), (2, .int x2), (3, .int x3), (4, .int x4), (5, .int x5), (6, .int x6)] [] M (fun r M2 => r = .inl (some (.int res)) ∧ M2 = M)) ∧ (∀ (r0 : Nat) (x1 : Int32) (x2 : Int32) (x3 : Int32) (x4 : Int32) (x5 : Int32) (x6 : Int32) (s0 : Int32) (s1 : Int32) (M : am_M), g_Model_holds F 9 r0 x1 x2 x3 x4 x5 x6 s0 s1 M = some res → AW u_Model_holds R_Model_holds 0 0 196 [(0, .ref r0), (1, .int x1), (2, .int x2), (4, .int x4), (5, .int x5), (6, .int x6)] [.int s0, .int s1] M (fun r M2 => r = .inl (some (.int res)) ∧ M2 = M)) ∧ (∀ (r0 : Nat) (x1 : Int32) (x2 : Int32) (x3 : Int32) (x4 : Int32) (x5 : Int32) (x6 : Int32) (s0 : Int32) (s1 : Int32) (M : am_M), g_Model_holds F 10 r0 x1 x2 x3 x4 x5 x6 s0 s1 M = some res → AW u_Model_holds R_Model_holds 0 0 204 [(0, .ref r0), (1, .int x1), (2, .int x2), (3, .int x3), (4, .int x4), (5, .int x5)] [] M (fun r M2 => r = .inl (some (.int res)) ∧ M2 = M)) ∧ (∀ (r0 : Nat) (x1 : Int32) (x2 : Int32) (x3 : Int32) (x4 : Int32) (x5 : Int32) (x6 : Int32) (s0 : Int32) (s1 : Int32) (M : am_M), g_Model_holds F 11 r0 x1 x2 x3 x4 x5 x6 s0 s1 M = some res → AW u_Model_holds R_Model_holds 0 0 240 [] [.int s0, .int s1] M (fun r M2 => r = .inl (some (.int res)) ∧ M2 = M)) := by
  intro F
  induction F with
  | zero => exact ⟨fun _ _ _ _ _ _ _ _ _ _  h => (by cases h), fun _ _ _ _ _ _ _ _ _ _  h => (by cases h), fun _ _ _ _ _ _ _ _ _ _  h => (by cases h), fun _ _ _ _ _ _ _ _ _ _  h => (by cases h), fun _ _ _ _ _ _ _ _ _ _  h => (by cases h), fun _ _ _ _ _ _ _ _ _ _  h => (by cases h), fun _ _ _ _ _ _ _ _ _ _  h => (by cases h), fun _ _ _ _ _ _ _ _ _ _  h => (by cases h), fun _ _ _ _ _ _ _ _ _ _  h => (by cases h), fun _ _ _ _ _ _ _ _ _ _  h => (by cases h), fun _ _ _ _ _ _ _ _ _ _  h => (by cases h), fun _ _ _ _ _ _ _ _ _ _  h => (by cases h)⟩
  | succ F ih =>
    obtain ⟨ih0, ih1, ih2, ih3, ih4, ih5, ih6, ih7, ih8, ih9, ih10, ih11⟩ := ih
    exact ⟨s_Model_holds_0 ih0 ih1 ih2 ih3 ih4 ih5 ih6 ih7 ih8 ih9 ih10 ih11, s_Model_holds_1 ih0 ih1 ih2 ih3 ih4 ih5 ih6 ih7 ih8 ih9 ih10 ih11, s_Model_holds_2 ih0 ih1 ih2 ih3 ih4 ih5 ih6 ih7 ih8 ih9 ih10 ih11, s_Model_holds_3 ih0 ih1 ih2 ih3 ih4 ih5 ih6 ih7 ih8 ih9 ih10 ih11, s_Model_holds_4 ih0 ih1 ih2 ih3 ih4 ih5 ih6 ih7 ih8 ih9 ih10 ih11, s_Model_holds_5 ih0 ih1 ih2 ih3 ih4 ih5 ih6 ih7 ih8 ih9 ih10 ih11, s_Model_holds_6 ih0 ih1 ih2 ih3 ih4 ih5 ih6 ih7 ih8 ih9 ih10 ih11, s_Model_holds_7 ih0 ih1 ih2 ih3 ih4 ih5 ih6 ih7 ih8 ih9 ih10 ih11, s_Model_holds_8 ih0 ih1 ih2 ih3 ih4 ih5 ih6 ih7 ih8 ih9 ih10 ih11, s_Model_holds_9 ih0 ih1 ih2 ih3 ih4 ih5 ih6 ih7 ih8 ih9 ih10 ih11, s_Model_holds_10 ih0 ih1 ih2 ih3 ih4 ih5 ih6 ih7 ih8 ih9 ih10 ih11, s_Model_holds_11 ih0 ih1 ih2 ih3 ih4 ih5 ih6 ih7 ih8 ih9 ih10 ih11⟩
set_option maxHeartbeats 4000000 in
theorem mt_Model_holds {M : am_M} {a0 : Nat} {a1 : Int32} {a2 : Int32} {res : Int32} (h : f_Model_holds M a0 a1 a2 = some res) : AMet y_Model_holds u_Model_holds R_Model_holds [.ref a0, .int a1, .int a2] M (fun r M2 => r = .inl (some (.int res)) ∧ M2 = M) := by
  refine am_met (by decide +kernel) w_Model_holds rfl rfl (Nat.le_of_ble_eq_true rfl) ?_
  show AW u_Model_holds R_Model_holds 0 0 0 [(0, .ref a0), (1, .int a1), (2, .int a2)] [] M (fun r M2 => r = .inl (some (.int res)) ∧ M2 = M)
  have ih_0 := (l_Model_holds (res := res) 1000000000).1
  have ih_1 := (l_Model_holds (res := res) 1000000000).2.1
  have ih_2 := (l_Model_holds (res := res) 1000000000).2.2.1
  have ih_3 := (l_Model_holds (res := res) 1000000000).2.2.2.1
  have ih_4 := (l_Model_holds (res := res) 1000000000).2.2.2.2.1
  have ih_5 := (l_Model_holds (res := res) 1000000000).2.2.2.2.2.1
  have ih_6 := (l_Model_holds (res := res) 1000000000).2.2.2.2.2.2.1
  have ih_7 := (l_Model_holds (res := res) 1000000000).2.2.2.2.2.2.2.1
  have ih_8 := (l_Model_holds (res := res) 1000000000).2.2.2.2.2.2.2.2.1
  have ih_9 := (l_Model_holds (res := res) 1000000000).2.2.2.2.2.2.2.2.2.1
  have ih_10 := (l_Model_holds (res := res) 1000000000).2.2.2.2.2.2.2.2.2.2.1
  have ih_11 := (l_Model_holds (res := res) 1000000000).2.2.2.2.2.2.2.2.2.2.2
  unfold f_Model_holds at h
  unfold e_Model_holds at h
  generalize g_Model_holds 1000000000 = rc at h ih_0 ih_1 ih_2 ih_3 ih_4 ih_5 ih_6 ih_7 ih_8 ih_9 ih_10 ih_11
  refine aw_iconst (v := 0) d_Model_holds_0 (by decide) ?_
  refine aw_istore_n (ls' := [(3, .int _), (0, .ref _), (1, .int _), (2, .int _)]) d_Model_holds_1 rfl (Nat.le_of_ble_eq_true rfl) rfl ?_
  refine aw_iconst (v := 0) d_Model_holds_2 (by decide) ?_
  refine aw_istore (ls' := [(4, .int _), (3, .int _), (0, .ref _), (1, .int _), (2, .int _)]) d_Model_holds_3 (Nat.le_of_ble_eq_true rfl) rfl ?_
  refine aw_iconst (v := 0) d_Model_holds_5 (by decide) ?_
  refine aw_istore (ls' := [(5, .int _), (4, .int _), (3, .int _), (0, .ref _), (1, .int _), (2, .int _)]) d_Model_holds_6 (Nat.le_of_ble_eq_true rfl) rfl ?_
  exact aw_pick [3, 4, 5, 2, 1, 0] rfl (ih_0 _ _ _ _ _ _ _ _ _ _ h)
def y_Model_scoreOf : MethodName := ⟨"CrewOfficeModel", "scoreOf", "(I)I"⟩
def u_Model_scoreOf : am_U := ("CrewOfficeModel", "scoreOf", prog_12_method_43_code, 4, (some .int), [])
def R_Model_scoreOf : Room := { frames := 1, cells := 0, slots := 0, locals := 26 }
theorem d_Model_scoreOf_0 : decode u_Model_scoreOf.2.2.1 0 = .ok (.iconst 0, 1) := by decide +kernel
theorem d_Model_scoreOf_1 : decode u_Model_scoreOf.2.2.1 1 = .ok (.istore_n 2, 1) := by decide +kernel
theorem d_Model_scoreOf_2 : decode u_Model_scoreOf.2.2.1 2 = .ok (.bipush 6, 2) := by decide +kernel
theorem d_Model_scoreOf_4 : decode u_Model_scoreOf.2.2.1 4 = .ok (.iload_n 1, 1) := by decide +kernel
theorem d_Model_scoreOf_5 : decode u_Model_scoreOf.2.2.1 5 = .ok (.imul, 1) := by decide +kernel
theorem d_Model_scoreOf_6 : decode u_Model_scoreOf.2.2.1 6 = .ok (.istore_n 3, 1) := by decide +kernel
theorem d_Model_scoreOf_7 : decode u_Model_scoreOf.2.2.1 7 = .ok (.iload_n 3, 1) := by decide +kernel
theorem d_Model_scoreOf_8 : decode u_Model_scoreOf.2.2.1 8 = .ok (.bipush 6, 2) := by decide +kernel
theorem d_Model_scoreOf_10 : decode u_Model_scoreOf.2.2.1 10 = .ok (.iload_n 1, 1) := by decide +kernel
theorem d_Model_scoreOf_11 : decode u_Model_scoreOf.2.2.1 11 = .ok (.imul, 1) := by decide +kernel
theorem d_Model_scoreOf_12 : decode u_Model_scoreOf.2.2.1 12 = .ok (.aload_n 0, 1) := by decide +kernel
theorem d_Model_scoreOf_13 : decode u_Model_scoreOf.2.2.1 13 = .ok (.getfield 66, 3) := by decide +kernel
theorem d_Model_scoreOf_16 : decode u_Model_scoreOf.2.2.1 16 = .ok (.iload_n 1, 1) := by decide +kernel
theorem d_Model_scoreOf_17 : decode u_Model_scoreOf.2.2.1 17 = .ok (.iaload, 1) := by decide +kernel
theorem d_Model_scoreOf_18 : decode u_Model_scoreOf.2.2.1 18 = .ok (.iadd, 1) := by decide +kernel
theorem d_Model_scoreOf_19 : decode u_Model_scoreOf.2.2.1 19 = .ok (.if_icmp .ge 25, 3) := by decide +kernel
theorem d_Model_scoreOf_22 : decode u_Model_scoreOf.2.2.1 22 = .ok (.iload_n 2, 1) := by decide +kernel
theorem d_Model_scoreOf_23 : decode u_Model_scoreOf.2.2.1 23 = .ok (.aload_n 0, 1) := by decide +kernel
theorem d_Model_scoreOf_24 : decode u_Model_scoreOf.2.2.1 24 = .ok (.getfield 75, 3) := by decide +kernel
theorem d_Model_scoreOf_27 : decode u_Model_scoreOf.2.2.1 27 = .ok (.iload_n 3, 1) := by decide +kernel
theorem d_Model_scoreOf_28 : decode u_Model_scoreOf.2.2.1 28 = .ok (.iaload, 1) := by decide +kernel
theorem d_Model_scoreOf_29 : decode u_Model_scoreOf.2.2.1 29 = .ok (.aload_n 0, 1) := by decide +kernel
theorem d_Model_scoreOf_30 : decode u_Model_scoreOf.2.2.1 30 = .ok (.iload_n 3, 1) := by decide +kernel
theorem d_Model_scoreOf_31 : decode u_Model_scoreOf.2.2.1 31 = .ok (.iload_n 1, 1) := by decide +kernel
theorem d_Model_scoreOf_32 : decode u_Model_scoreOf.2.2.1 32 = .ok (.invokevirtual 252, 3) := by decide +kernel
theorem d_Model_scoreOf_35 : decode u_Model_scoreOf.2.2.1 35 = .ok (.imul, 1) := by decide +kernel
theorem d_Model_scoreOf_36 : decode u_Model_scoreOf.2.2.1 36 = .ok (.iadd, 1) := by decide +kernel
theorem d_Model_scoreOf_37 : decode u_Model_scoreOf.2.2.1 37 = .ok (.istore_n 2, 1) := by decide +kernel
theorem d_Model_scoreOf_38 : decode u_Model_scoreOf.2.2.1 38 = .ok (.iinc 3 1, 3) := by decide +kernel
theorem d_Model_scoreOf_41 : decode u_Model_scoreOf.2.2.1 41 = .ok (.goto (-34), 3) := by decide +kernel
theorem d_Model_scoreOf_44 : decode u_Model_scoreOf.2.2.1 44 = .ok (.iload_n 2, 1) := by decide +kernel
theorem d_Model_scoreOf_45 : decode u_Model_scoreOf.2.2.1 45 = .ok (.ireturn, 1) := by decide +kernel
theorem w_Model_scoreOf : am_code y_Model_scoreOf u_Model_scoreOf ∈ am_ws := am_mem (List.mem_of_getElem? (i := 1355) (by decide +kernel)) rfl
def a_Model_scoreOf_0 (rc : Nat → Nat → Int32 → Int32 → Int32 → am_M → Option (Int32)) (r0 : Nat) (x1 : Int32) (x2 : Int32) (x3 : Int32) (M : am_M) : Option (Int32) := (q_gtr M r0 10 19).bind (fun t13 => (q_ldi M t13 x1).bind (fun t17 => if (((6 : Int32) * x1) + t17) ≤ x3 then (some x2) else ((q_gtr M r0 10 22).bind (fun t24 => (q_ldi M t24 x3).bind (fun t28 => (q_ob M r0 10).bind (fun o32 => (f_Model_holds M r0 x3 x1).bind (fun t32 => rc 0 r0 x1 (x2 + (t28 * t32)) (x3 + (1 : Int32)) M)))))))
def g_Model_scoreOf : Nat → Nat → Nat → Int32 → Int32 → Int32 → am_M → Option (Int32)
  | 0, _, _, _, _, _, _ => none
  | F + 1, 0, r0, x1, x2, x3, M => a_Model_scoreOf_0 (g_Model_scoreOf F) r0 x1 x2 x3 M
  | _ + 1, _ + 1, _, _, _, _, _ => none
def e_Model_scoreOf (rc : Nat → Nat → Int32 → Int32 → Int32 → am_M → Option (Int32)) (M : am_M) (a0 : Nat) (a1 : Int32) : Option (Int32) := rc 0 a0 a1 (0 : Int32) ((6 : Int32) * a1) M
def f_Model_scoreOf (M : am_M) (a0 : Nat) (a1 : Int32) : Option (Int32) := e_Model_scoreOf (g_Model_scoreOf 1000000000) M a0 a1
theorem kV_Model_252 : am_kV "CrewOfficeModel" 252 10 y_Model_holds u_Model_holds 2 := ⟨List.mem_of_getElem? (i := 1356) (by decide +kernel), ⟨List.mem_of_getElem? (i := 1358) (by decide +kernel), List.mem_of_getElem? (i := 51) (by decide +kernel)⟩, List.mem_of_getElem? (i := 65) (by decide +kernel), w_Model_holds, ⟨⟨by decide +kernel, by decide +kernel⟩, by decide +kernel⟩⟩
set_option maxHeartbeats 4000000 in
theorem s_Model_scoreOf_0 {rc : Nat → Nat → Int32 → Int32 → Int32 → am_M → Option (Int32)} {res : Int32} (ih_0 : ∀ (r0 : Nat) (x1 : Int32) (x2 : Int32) (x3 : Int32) (M : am_M), rc 0 r0 x1 x2 x3 M = some res → AW u_Model_scoreOf R_Model_scoreOf 0 0 7 [(0, .ref r0), (1, .int x1), (2, .int x2), (3, .int x3)] [] M (fun r M2 => r = .inl (some (.int res)) ∧ M2 = M)) : ∀ (r0 : Nat) (x1 : Int32) (x2 : Int32) (x3 : Int32) (M : am_M), a_Model_scoreOf_0 rc r0 x1 x2 x3 M = some res → AW u_Model_scoreOf R_Model_scoreOf 0 0 7 [(0, .ref r0), (1, .int x1), (2, .int x2), (3, .int x3)] [] M (fun r M2 => r = .inl (some (.int res)) ∧ M2 = M) := by
  intro r0 x1 x2 x3 M h
  unfold a_Model_scoreOf_0 at h
  refine aw_iload_n d_Model_scoreOf_7 rfl rfl ?_
  refine aw_bipush (v := 6) d_Model_scoreOf_8 (by decide) ?_
  refine aw_iload_n d_Model_scoreOf_10 rfl rfl ?_
  refine aw_imul d_Model_scoreOf_11 ?_
  refine aw_aload_n d_Model_scoreOf_12 rfl rfl ?_
  obtain ⟨t13, e_t13, h⟩ := q_bind h
  refine aw_gtr d_Model_scoreOf_13 fl_Model_66 (Or.inr ⟨_, rfl⟩) e_t13 ?_
  refine aw_iload_n d_Model_scoreOf_16 rfl rfl ?_
  obtain ⟨t17, e_t17, h⟩ := q_bind h
  refine aw_ldi d_Model_scoreOf_17 e_t17 ?_
  refine aw_iadd d_Model_scoreOf_18 ?_
  refine aw_icmp_ge (tgt := 44) d_Model_scoreOf_19 (by decide) (fun hc => ?_) (fun hc => ?_)
  · rw [if_pos hc] at h
    refine aw_iload_n d_Model_scoreOf_44 rfl rfl ?_
    cases h
    exact aw_ireturn d_Model_scoreOf_45 rfl (Nat.le_of_ble_eq_true rfl) (Nat.le_of_ble_eq_true rfl) ⟨rfl, rfl⟩
  · rw [if_neg hc] at h
    refine aw_iload_n d_Model_scoreOf_22 rfl rfl ?_
    refine aw_aload_n d_Model_scoreOf_23 rfl rfl ?_
    obtain ⟨t24, e_t24, h⟩ := q_bind h
    refine aw_gtr d_Model_scoreOf_24 fl_Model_75 (Or.inr ⟨_, rfl⟩) e_t24 ?_
    refine aw_iload_n d_Model_scoreOf_27 rfl rfl ?_
    obtain ⟨t28, e_t28, h⟩ := q_bind h
    refine aw_ldi d_Model_scoreOf_28 e_t28 ?_
    refine aw_aload_n d_Model_scoreOf_29 rfl rfl ?_
    refine aw_iload_n d_Model_scoreOf_30 rfl rfl ?_
    refine aw_iload_n d_Model_scoreOf_31 rfl rfl ?_
    obtain ⟨o32, e_o32, h⟩ := q_bind h
    obtain ⟨t32, e_t32, h⟩ := q_bind h
    refine aw_cV (v := (some (.int t32))) (As := [.int x3, .int x1]) (rest := [.int t28, .int x2]) (st' := [.int t32, .int t28, .int x2]) d_Model_scoreOf_32 kV_Model_252 (q_ob_spec e_o32).1 (q_ob_spec e_o32).2 ⟨Nat.le_of_ble_eq_true rfl, Nat.le_of_ble_eq_true rfl, Nat.le_of_ble_eq_true rfl, Nat.le_of_ble_eq_true rfl⟩ rfl rfl (Nat.le_of_ble_eq_true rfl) rfl (mt_Model_holds e_t32) ?_
    refine aw_imul d_Model_scoreOf_35 ?_
    refine aw_iadd d_Model_scoreOf_36 ?_
    refine aw_istore_n (ls' := [(2, .int _), (0, .ref _), (1, .int _), (3, .int _)]) d_Model_scoreOf_37 rfl (Nat.le_of_ble_eq_true rfl) rfl ?_
    refine aw_iinc (v := (x3 + (1 : Int32))) (ls' := [(3, .int _), (2, .int _), (0, .ref _), (1, .int _)]) d_Model_scoreOf_38 rfl rfl (Nat.le_of_ble_eq_true rfl) rfl ?_
    refine aw_goto (tgt := 7) d_Model_scoreOf_41 (by decide) ?_
    exact aw_pick [2, 3, 1, 0] rfl (ih_0 _ _ _ _ _ h)
theorem l_Model_scoreOf {res : Int32} : ∀ F : Nat, (∀ (r0 : Nat) (x1 : Int32) (x2 : Int32) (x3 : Int32) (M : am_M), g_Model_scoreOf F 0 r0 x1 x2 x3 M = some res → AW u_Model_scoreOf R_Model_scoreOf 0 0 7 [(0, .ref r0), (1, .int x1), (2, .int x2), (3, .int x3)] [] M (fun r M2 => r = .inl (some (.int res)) ∧ M2 = M)) := by
  intro F
  induction F with
  | zero => exact fun _ _ _ _ _  h => (by cases h)
  | succ F ih =>
    have ih0 := ih
    exact s_Model_scoreOf_0 ih0
set_option maxHeartbeats 4000000 in
theorem mt_Model_scoreOf {M : am_M} {a0 : Nat} {a1 : Int32} {res : Int32} (h : f_Model_scoreOf M a0 a1 = some res) : AMet y_Model_scoreOf u_Model_scoreOf R_Model_scoreOf [.ref a0, .int a1] M (fun r M2 => r = .inl (some (.int res)) ∧ M2 = M) := by
  refine am_met (by decide +kernel) w_Model_scoreOf rfl rfl (Nat.le_of_ble_eq_true rfl) ?_
  show AW u_Model_scoreOf R_Model_scoreOf 0 0 0 [(0, .ref a0), (1, .int a1)] [] M (fun r M2 => r = .inl (some (.int res)) ∧ M2 = M)
  have ih_0 := (l_Model_scoreOf (res := res) 1000000000)
  unfold f_Model_scoreOf at h
  unfold e_Model_scoreOf at h
  generalize g_Model_scoreOf 1000000000 = rc at h ih_0
  refine aw_iconst (v := 0) d_Model_scoreOf_0 (by decide) ?_
  refine aw_istore_n (ls' := [(2, .int _), (0, .ref _), (1, .int _)]) d_Model_scoreOf_1 rfl (Nat.le_of_ble_eq_true rfl) rfl ?_
  refine aw_bipush (v := 6) d_Model_scoreOf_2 (by decide) ?_
  refine aw_iload_n d_Model_scoreOf_4 rfl rfl ?_
  refine aw_imul d_Model_scoreOf_5 ?_
  refine aw_istore_n (ls' := [(3, .int _), (2, .int _), (0, .ref _), (1, .int _)]) d_Model_scoreOf_6 rfl (Nat.le_of_ble_eq_true rfl) rfl ?_
  exact aw_pick [2, 3, 1, 0] rfl (ih_0 _ _ _ _ _ h)
def y_Model_orders : MethodName := ⟨"CrewOfficeModel", "orders", "()V"⟩
def u_Model_orders : am_U := ("CrewOfficeModel", "orders", prog_12_method_45_code, 3, none, [])
def R_Model_orders : Room := { frames := 0, cells := 0, slots := 0, locals := 0 }
theorem d_Model_orders_0 : decode u_Model_orders.2.2.1 0 = .ok (.aload_n 0, 1) := by decide +kernel
theorem d_Model_orders_1 : decode u_Model_orders.2.2.1 1 = .ok (.iconst 0, 1) := by decide +kernel
theorem d_Model_orders_2 : decode u_Model_orders.2.2.1 2 = .ok (.putfield 258, 3) := by decide +kernel
theorem d_Model_orders_5 : decode u_Model_orders.2.2.1 5 = .ok (.bipush 99, 2) := by decide +kernel
theorem d_Model_orders_7 : decode u_Model_orders.2.2.1 7 = .ok (.istore_n 1, 1) := by decide +kernel
theorem d_Model_orders_8 : decode u_Model_orders.2.2.1 8 = .ok (.iload_n 1, 1) := by decide +kernel
theorem d_Model_orders_9 : decode u_Model_orders.2.2.1 9 = .ok (.ifCond .lt 64, 3) := by decide +kernel
theorem d_Model_orders_12 : decode u_Model_orders.2.2.1 12 = .ok (.iconst 0, 1) := by decide +kernel
theorem d_Model_orders_13 : decode u_Model_orders.2.2.1 13 = .ok (.istore_n 2, 1) := by decide +kernel
theorem d_Model_orders_14 : decode u_Model_orders.2.2.1 14 = .ok (.iload_n 2, 1) := by decide +kernel
theorem d_Model_orders_15 : decode u_Model_orders.2.2.1 15 = .ok (.iconst 4, 1) := by decide +kernel
theorem d_Model_orders_16 : decode u_Model_orders.2.2.1 16 = .ok (.if_icmp .ge 51, 3) := by decide +kernel
theorem d_Model_orders_19 : decode u_Model_orders.2.2.1 19 = .ok (.aload_n 0, 1) := by decide +kernel
theorem d_Model_orders_20 : decode u_Model_orders.2.2.1 20 = .ok (.getfield 45, 3) := by decide +kernel
theorem d_Model_orders_23 : decode u_Model_orders.2.2.1 23 = .ok (.iload_n 2, 1) := by decide +kernel
theorem d_Model_orders_24 : decode u_Model_orders.2.2.1 24 = .ok (.baload, 1) := by decide +kernel
theorem d_Model_orders_25 : decode u_Model_orders.2.2.1 25 = .ok (.ifCond .eq 36, 3) := by decide +kernel
theorem d_Model_orders_28 : decode u_Model_orders.2.2.1 28 = .ok (.aload_n 0, 1) := by decide +kernel
theorem d_Model_orders_29 : decode u_Model_orders.2.2.1 29 = .ok (.getfield 51, 3) := by decide +kernel
theorem d_Model_orders_32 : decode u_Model_orders.2.2.1 32 = .ok (.iload_n 2, 1) := by decide +kernel
theorem d_Model_orders_33 : decode u_Model_orders.2.2.1 33 = .ok (.iaload, 1) := by decide +kernel
theorem d_Model_orders_34 : decode u_Model_orders.2.2.1 34 = .ok (.iload_n 1, 1) := by decide +kernel
theorem d_Model_orders_35 : decode u_Model_orders.2.2.1 35 = .ok (.if_icmp .eq 6, 3) := by decide +kernel
theorem d_Model_orders_38 : decode u_Model_orders.2.2.1 38 = .ok (.goto 23, 3) := by decide +kernel
theorem d_Model_orders_41 : decode u_Model_orders.2.2.1 41 = .ok (.aload_n 0, 1) := by decide +kernel
theorem d_Model_orders_42 : decode u_Model_orders.2.2.1 42 = .ok (.getfield 146, 3) := by decide +kernel
theorem d_Model_orders_45 : decode u_Model_orders.2.2.1 45 = .ok (.aload_n 0, 1) := by decide +kernel
theorem d_Model_orders_46 : decode u_Model_orders.2.2.1 46 = .ok (.getfield 258, 3) := by decide +kernel
theorem d_Model_orders_49 : decode u_Model_orders.2.2.1 49 = .ok (.iload_n 2, 1) := by decide +kernel
theorem d_Model_orders_50 : decode u_Model_orders.2.2.1 50 = .ok (.iastore, 1) := by decide +kernel
theorem d_Model_orders_51 : decode u_Model_orders.2.2.1 51 = .ok (.aload_n 0, 1) := by decide +kernel
theorem d_Model_orders_52 : decode u_Model_orders.2.2.1 52 = .ok (.dup, 1) := by decide +kernel
theorem d_Model_orders_53 : decode u_Model_orders.2.2.1 53 = .ok (.getfield 258, 3) := by decide +kernel
theorem d_Model_orders_56 : decode u_Model_orders.2.2.1 56 = .ok (.iconst 1, 1) := by decide +kernel
theorem d_Model_orders_57 : decode u_Model_orders.2.2.1 57 = .ok (.iadd, 1) := by decide +kernel
theorem d_Model_orders_58 : decode u_Model_orders.2.2.1 58 = .ok (.putfield 258, 3) := by decide +kernel
theorem d_Model_orders_61 : decode u_Model_orders.2.2.1 61 = .ok (.iinc 2 1, 3) := by decide +kernel
theorem d_Model_orders_64 : decode u_Model_orders.2.2.1 64 = .ok (.goto (-50), 3) := by decide +kernel
theorem d_Model_orders_67 : decode u_Model_orders.2.2.1 67 = .ok (.iinc 1 (-1), 3) := by decide +kernel
theorem d_Model_orders_70 : decode u_Model_orders.2.2.1 70 = .ok (.goto (-62), 3) := by decide +kernel
theorem d_Model_orders_73 : decode u_Model_orders.2.2.1 73 = .ok (.return_, 1) := by decide +kernel
theorem w_Model_orders : am_code y_Model_orders u_Model_orders ∈ am_ws := am_mem (List.mem_of_getElem? (i := 1335) (by decide +kernel)) rfl
def a_Model_orders_0 (rc : Nat → Nat → Int32 → Int32 → am_M → Option (Unit × am_M)) (r0 : Nat) (x1 : Int32) (x2 : Int32) (M : am_M) : Option (Unit × am_M) := if x1 < 0 then (some ((), M)) else (rc 1 r0 x1 (0 : Int32) M)
def a_Model_orders_1 (rc : Nat → Nat → Int32 → Int32 → am_M → Option (Unit × am_M)) (r0 : Nat) (x1 : Int32) (x2 : Int32) (M : am_M) : Option (Unit × am_M) := if (4 : Int32) ≤ x2 then (rc 0 r0 (x1 + (-1 : Int32)) 0 M) else ((q_gtr M r0 10 12).bind (fun t20 => (q_ldz M t20 x2).bind (fun t24 => if t24 = 0 then (rc 2 r0 x1 x2 M) else ((q_gtr M r0 10 14).bind (fun t29 => (q_ldi M t29 x2).bind (fun t33 => if t33 = x1 then ((q_gtr M r0 10 50).bind (fun t42 => (q_gti M r0 10 51).bind (fun t46 => (q_sti M t42 t46 x2).bind (fun M50 => (q_gti M50 r0 10 51).bind (fun t53 => (q_pti M50 r0 10 51 (t53 + (1 : Int32))).bind (fun M58 => rc 2 r0 x1 x2 M58)))))) else (rc 2 r0 x1 x2 M)))))))
def a_Model_orders_2 (rc : Nat → Nat → Int32 → Int32 → am_M → Option (Unit × am_M)) (r0 : Nat) (x1 : Int32) (x2 : Int32) (M : am_M) : Option (Unit × am_M) := rc 1 r0 x1 (x2 + (1 : Int32)) M
def g_Model_orders : Nat → Nat → Nat → Int32 → Int32 → am_M → Option (Unit × am_M)
  | 0, _, _, _, _, _ => none
  | F + 1, 0, r0, x1, x2, M => a_Model_orders_0 (g_Model_orders F) r0 x1 x2 M
  | F + 1, 1, r0, x1, x2, M => a_Model_orders_1 (g_Model_orders F) r0 x1 x2 M
  | F + 1, 2, r0, x1, x2, M => a_Model_orders_2 (g_Model_orders F) r0 x1 x2 M
  | _ + 1, _ + 3, _, _, _, _ => none
def e_Model_orders (rc : Nat → Nat → Int32 → Int32 → am_M → Option (Unit × am_M)) (M : am_M) (a0 : Nat) : Option (Unit × am_M) := (q_pti M a0 10 51 (0 : Int32)).bind (fun M2 => rc 0 a0 (99 : Int32) 0 M2)
def f_Model_orders (M : am_M) (a0 : Nat) : Option (Unit × am_M) := e_Model_orders (g_Model_orders 1000000000) M a0
theorem fl_Model_51 : am_fl "CrewOfficeModel" 51 10 14 := ⟨by decide, by decide, List.mem_of_getElem? (i := 1020) (by decide +kernel)⟩
theorem fl_Model_146 : am_fl "CrewOfficeModel" 146 10 50 := ⟨by decide, by decide, List.mem_of_getElem? (i := 1056) (by decide +kernel)⟩
theorem fl_Model_258 : am_fl "CrewOfficeModel" 258 10 51 := ⟨by decide, by decide, List.mem_of_getElem? (i := 1057) (by decide +kernel)⟩
set_option maxHeartbeats 4000000 in
theorem s_Model_orders_0 {rc : Nat → Nat → Int32 → Int32 → am_M → Option (Unit × am_M)} {res : Unit} {M' : am_M} (ih_0 : ∀ (r0 : Nat) (x1 : Int32) (x2 : Int32) (M : am_M), rc 0 r0 x1 x2 M = some (res, M') → AW u_Model_orders R_Model_orders 0 0 8 [(0, .ref r0), (1, .int x1)] [] M (fun r M2 => r = .inl none ∧ M2 = M')) (ih_1 : ∀ (r0 : Nat) (x1 : Int32) (x2 : Int32) (M : am_M), rc 1 r0 x1 x2 M = some (res, M') → AW u_Model_orders R_Model_orders 0 0 14 [(0, .ref r0), (1, .int x1), (2, .int x2)] [] M (fun r M2 => r = .inl none ∧ M2 = M')) (ih_2 : ∀ (r0 : Nat) (x1 : Int32) (x2 : Int32) (M : am_M), rc 2 r0 x1 x2 M = some (res, M') → AW u_Model_orders R_Model_orders 0 0 61 [(0, .ref r0), (1, .int x1), (2, .int x2)] [] M (fun r M2 => r = .inl none ∧ M2 = M')) : ∀ (r0 : Nat) (x1 : Int32) (x2 : Int32) (M : am_M), a_Model_orders_0 rc r0 x1 x2 M = some (res, M') → AW u_Model_orders R_Model_orders 0 0 8 [(0, .ref r0), (1, .int x1)] [] M (fun r M2 => r = .inl none ∧ M2 = M') := by
  intro r0 x1 x2 M h
  unfold a_Model_orders_0 at h
  refine aw_iload_n d_Model_orders_8 rfl rfl ?_
  refine aw_if_lt (tgt := 73) d_Model_orders_9 (by decide) (fun hc => ?_) (fun hc => ?_)
  · rw [if_pos hc] at h
    cases h
    exact aw_vreturn d_Model_orders_73 rfl (Nat.le_of_ble_eq_true rfl) (Nat.le_of_ble_eq_true rfl) ⟨rfl, rfl⟩
  · rw [if_neg hc] at h
    refine aw_iconst (v := 0) d_Model_orders_12 (by decide) ?_
    refine aw_istore_n (ls' := [(2, .int _), (0, .ref _), (1, .int _)]) d_Model_orders_13 rfl (Nat.le_of_ble_eq_true rfl) rfl ?_
    exact aw_pick [1, 2, 0] rfl (ih_1 _ _ _ _ h)
set_option maxHeartbeats 4000000 in
theorem s_Model_orders_1 {rc : Nat → Nat → Int32 → Int32 → am_M → Option (Unit × am_M)} {res : Unit} {M' : am_M} (ih_0 : ∀ (r0 : Nat) (x1 : Int32) (x2 : Int32) (M : am_M), rc 0 r0 x1 x2 M = some (res, M') → AW u_Model_orders R_Model_orders 0 0 8 [(0, .ref r0), (1, .int x1)] [] M (fun r M2 => r = .inl none ∧ M2 = M')) (ih_1 : ∀ (r0 : Nat) (x1 : Int32) (x2 : Int32) (M : am_M), rc 1 r0 x1 x2 M = some (res, M') → AW u_Model_orders R_Model_orders 0 0 14 [(0, .ref r0), (1, .int x1), (2, .int x2)] [] M (fun r M2 => r = .inl none ∧ M2 = M')) (ih_2 : ∀ (r0 : Nat) (x1 : Int32) (x2 : Int32) (M : am_M), rc 2 r0 x1 x2 M = some (res, M') → AW u_Model_orders R_Model_orders 0 0 61 [(0, .ref r0), (1, .int x1), (2, .int x2)] [] M (fun r M2 => r = .inl none ∧ M2 = M')) : ∀ (r0 : Nat) (x1 : Int32) (x2 : Int32) (M : am_M), a_Model_orders_1 rc r0 x1 x2 M = some (res, M') → AW u_Model_orders R_Model_orders 0 0 14 [(0, .ref r0), (1, .int x1), (2, .int x2)] [] M (fun r M2 => r = .inl none ∧ M2 = M') := by
  intro r0 x1 x2 M h
  unfold a_Model_orders_1 at h
  refine aw_iload_n d_Model_orders_14 rfl rfl ?_
  refine aw_iconst (v := 4) d_Model_orders_15 (by decide) ?_
  refine aw_icmp_ge (tgt := 67) d_Model_orders_16 (by decide) (fun hc => ?_) (fun hc => ?_)
  · rw [if_pos hc] at h
    refine aw_iinc (v := (x1 + (-1 : Int32))) (ls' := [(1, .int _), (0, .ref _), (2, .int _)]) d_Model_orders_67 rfl rfl (Nat.le_of_ble_eq_true rfl) rfl ?_
    refine aw_goto (tgt := 8) d_Model_orders_70 (by decide) ?_
    exact aw_pick [1, 0] rfl (ih_0 _ _ _ _ h)
  · rw [if_neg hc] at h
    refine aw_aload_n d_Model_orders_19 rfl rfl ?_
    obtain ⟨t20, e_t20, h⟩ := q_bind h
    refine aw_gtr d_Model_orders_20 fl_Model_45 (Or.inr ⟨_, rfl⟩) e_t20 ?_
    refine aw_iload_n d_Model_orders_23 rfl rfl ?_
    obtain ⟨t24, e_t24, h⟩ := q_bind h
    refine aw_ldz d_Model_orders_24 e_t24 ?_
    refine aw_if_eq (tgt := 61) d_Model_orders_25 (by decide) (fun hc => ?_) (fun hc => ?_)
    · rw [if_pos hc] at h
      exact aw_pick [0, 1, 2] rfl (ih_2 _ _ _ _ h)
    · rw [if_neg hc] at h
      refine aw_aload_n d_Model_orders_28 rfl rfl ?_
      obtain ⟨t29, e_t29, h⟩ := q_bind h
      refine aw_gtr d_Model_orders_29 fl_Model_51 (Or.inr ⟨_, rfl⟩) e_t29 ?_
      refine aw_iload_n d_Model_orders_32 rfl rfl ?_
      obtain ⟨t33, e_t33, h⟩ := q_bind h
      refine aw_ldi d_Model_orders_33 e_t33 ?_
      refine aw_iload_n d_Model_orders_34 rfl rfl ?_
      refine aw_icmp_eq (tgt := 41) d_Model_orders_35 (by decide) (fun hc => ?_) (fun hc => ?_)
      · rw [if_pos hc] at h
        refine aw_aload_n d_Model_orders_41 rfl rfl ?_
        obtain ⟨t42, e_t42, h⟩ := q_bind h
        refine aw_gtr d_Model_orders_42 fl_Model_146 (Or.inr ⟨_, rfl⟩) e_t42 ?_
        refine aw_aload_n d_Model_orders_45 rfl rfl ?_
        obtain ⟨t46, e_t46, h⟩ := q_bind h
        refine aw_gti d_Model_orders_46 fl_Model_258 (Or.inl rfl) e_t46 ?_
        refine aw_iload_n d_Model_orders_49 rfl rfl ?_
        obtain ⟨M50, e_M50, h⟩ := q_bind h
        refine aw_sti d_Model_orders_50 e_M50 ?_
        refine aw_aload_n d_Model_orders_51 rfl rfl ?_
        refine aw_dup d_Model_orders_52 rfl ?_
        obtain ⟨t53, e_t53, h⟩ := q_bind h
        refine aw_gti d_Model_orders_53 fl_Model_258 (Or.inl rfl) e_t53 ?_
        refine aw_iconst (v := 1) d_Model_orders_56 (by decide) ?_
        refine aw_iadd d_Model_orders_57 ?_
        obtain ⟨M58, e_M58, h⟩ := q_bind h
        refine aw_pti d_Model_orders_58 fl_Model_258 rfl rfl e_M58 ?_
        exact aw_pick [0, 1, 2] rfl (ih_2 _ _ _ _ h)
      · rw [if_neg hc] at h
        refine aw_goto (tgt := 61) d_Model_orders_38 (by decide) ?_
        exact aw_pick [0, 1, 2] rfl (ih_2 _ _ _ _ h)
set_option maxHeartbeats 4000000 in
theorem s_Model_orders_2 {rc : Nat → Nat → Int32 → Int32 → am_M → Option (Unit × am_M)} {res : Unit} {M' : am_M} (ih_0 : ∀ (r0 : Nat) (x1 : Int32) (x2 : Int32) (M : am_M), rc 0 r0 x1 x2 M = some (res, M') → AW u_Model_orders R_Model_orders 0 0 8 [(0, .ref r0), (1, .int x1)] [] M (fun r M2 => r = .inl none ∧ M2 = M')) (ih_1 : ∀ (r0 : Nat) (x1 : Int32) (x2 : Int32) (M : am_M), rc 1 r0 x1 x2 M = some (res, M') → AW u_Model_orders R_Model_orders 0 0 14 [(0, .ref r0), (1, .int x1), (2, .int x2)] [] M (fun r M2 => r = .inl none ∧ M2 = M')) (ih_2 : ∀ (r0 : Nat) (x1 : Int32) (x2 : Int32) (M : am_M), rc 2 r0 x1 x2 M = some (res, M') → AW u_Model_orders R_Model_orders 0 0 61 [(0, .ref r0), (1, .int x1), (2, .int x2)] [] M (fun r M2 => r = .inl none ∧ M2 = M')) : ∀ (r0 : Nat) (x1 : Int32) (x2 : Int32) (M : am_M), a_Model_orders_2 rc r0 x1 x2 M = some (res, M') → AW u_Model_orders R_Model_orders 0 0 61 [(0, .ref r0), (1, .int x1), (2, .int x2)] [] M (fun r M2 => r = .inl none ∧ M2 = M') := by
  intro r0 x1 x2 M h
  unfold a_Model_orders_2 at h
  refine aw_iinc (v := (x2 + (1 : Int32))) (ls' := [(2, .int _), (0, .ref _), (1, .int _)]) d_Model_orders_61 rfl rfl (Nat.le_of_ble_eq_true rfl) rfl ?_
  refine aw_goto (tgt := 14) d_Model_orders_64 (by decide) ?_
  exact aw_pick [1, 2, 0] rfl (ih_1 _ _ _ _ h)
theorem l_Model_orders {res : Unit} {M' : am_M} : ∀ F : Nat, (∀ (r0 : Nat) (x1 : Int32) (x2 : Int32) (M : am_M), g_Model_orders F 0 r0 x1 x2 M = some (res, M') → AW u_Model_orders R_Model_orders 0 0 8 [(0, .ref r0), (1, .int x1)] [] M (fun r M2 => r = .inl none ∧ M2 = M')) ∧ (∀ (r0 : Nat) (x1 : Int32) (x2 : Int32) (M : am_M), g_Model_orders F 1 r0 x1 x2 M = some (res, M') → AW u_Model_orders R_Model_orders 0 0 14 [(0, .ref r0), (1, .int x1), (2, .int x2)] [] M (fun r M2 => r = .inl none ∧ M2 = M')) ∧ (∀ (r0 : Nat) (x1 : Int32) (x2 : Int32) (M : am_M), g_Model_orders F 2 r0 x1 x2 M = some (res, M') → AW u_Model_orders R_Model_orders 0 0 61 [(0, .ref r0), (1, .int x1), (2, .int x2)] [] M (fun r M2 => r = .inl none ∧ M2 = M')) := by
  intro F
  induction F with
  | zero => exact ⟨fun _ _ _ _  h => (by cases h), fun _ _ _ _  h => (by cases h), fun _ _ _ _  h => (by cases h)⟩
  | succ F ih =>
    obtain ⟨ih0, ih1, ih2⟩ := ih
    exact ⟨s_Model_orders_0 ih0 ih1 ih2, s_Model_orders_1 ih0 ih1 ih2, s_Model_orders_2 ih0 ih1 ih2⟩
set_option maxHeartbeats 4000000 in
theorem mt_Model_orders {M : am_M} {a0 : Nat} {res : Unit} {M' : am_M} (h : f_Model_orders M a0 = some (res, M')) : AMet y_Model_orders u_Model_orders R_Model_orders [.ref a0] M (fun r M2 => r = .inl none ∧ M2 = M') := by
  refine am_met (by decide +kernel) w_Model_orders rfl rfl (Nat.le_of_ble_eq_true rfl) ?_
  show AW u_Model_orders R_Model_orders 0 0 0 [(0, .ref a0)] [] M (fun r M2 => r = .inl none ∧ M2 = M')
  have ih_0 := (l_Model_orders (res := res) (M' := M') 1000000000).1
  have ih_1 := (l_Model_orders (res := res) (M' := M') 1000000000).2.1
  have ih_2 := (l_Model_orders (res := res) (M' := M') 1000000000).2.2
  unfold f_Model_orders at h
  unfold e_Model_orders at h
  generalize g_Model_orders 1000000000 = rc at h ih_0 ih_1 ih_2
  refine aw_aload_n d_Model_orders_0 rfl rfl ?_
  refine aw_iconst (v := 0) d_Model_orders_1 (by decide) ?_
  obtain ⟨M2, e_M2, h⟩ := q_bind h
  refine aw_pti d_Model_orders_2 fl_Model_258 rfl rfl e_M2 ?_
  refine aw_bipush (v := 99) d_Model_orders_5 (by decide) ?_
  refine aw_istore_n (ls' := [(1, .int _), (0, .ref _)]) d_Model_orders_7 rfl (Nat.le_of_ble_eq_true rfl) rfl ?_
  exact aw_pick [1, 0] rfl (ih_0 _ _ _ _ h)
def y_Model_gives : MethodName := ⟨"CrewOfficeModel", "gives", "(II)V"⟩
def u_Model_gives : am_U := ("CrewOfficeModel", "gives", prog_12_method_47_code, 4, none, [])
def R_Model_gives : Room := { frames := 0, cells := 0, slots := 0, locals := 0 }
theorem d_Model_gives_0 : decode u_Model_gives.2.2.1 0 = .ok (.iconst 0, 1) := by decide +kernel
theorem d_Model_gives_1 : decode u_Model_gives.2.2.1 1 = .ok (.istore_n 3, 1) := by decide +kernel
theorem d_Model_gives_2 : decode u_Model_gives.2.2.1 2 = .ok (.iload_n 3, 1) := by decide +kernel
theorem d_Model_gives_3 : decode u_Model_gives.2.2.1 3 = .ok (.aload_n 0, 1) := by decide +kernel
theorem d_Model_gives_4 : decode u_Model_gives.2.2.1 4 = .ok (.getfield 255, 3) := by decide +kernel
theorem d_Model_gives_7 : decode u_Model_gives.2.2.1 7 = .ok (.if_icmp .ge 30, 3) := by decide +kernel
theorem d_Model_gives_10 : decode u_Model_gives.2.2.1 10 = .ok (.iload_n 2, 1) := by decide +kernel
theorem d_Model_gives_11 : decode u_Model_gives.2.2.1 11 = .ok (.iload_n 3, 1) := by decide +kernel
theorem d_Model_gives_12 : decode u_Model_gives.2.2.1 12 = .ok (.ishr, 1) := by decide +kernel
theorem d_Model_gives_13 : decode u_Model_gives.2.2.1 13 = .ok (.iconst 1, 1) := by decide +kernel
theorem d_Model_gives_14 : decode u_Model_gives.2.2.1 14 = .ok (.iand, 1) := by decide +kernel
theorem d_Model_gives_15 : decode u_Model_gives.2.2.1 15 = .ok (.iconst 1, 1) := by decide +kernel
theorem d_Model_gives_16 : decode u_Model_gives.2.2.1 16 = .ok (.if_icmp .ne 15, 3) := by decide +kernel
theorem d_Model_gives_19 : decode u_Model_gives.2.2.1 19 = .ok (.aload_n 0, 1) := by decide +kernel
theorem d_Model_gives_20 : decode u_Model_gives.2.2.1 20 = .ok (.getfield 127, 3) := by decide +kernel
theorem d_Model_gives_23 : decode u_Model_gives.2.2.1 23 = .ok (.aload_n 0, 1) := by decide +kernel
theorem d_Model_gives_24 : decode u_Model_gives.2.2.1 24 = .ok (.getfield 143, 3) := by decide +kernel
theorem d_Model_gives_27 : decode u_Model_gives.2.2.1 27 = .ok (.iload_n 3, 1) := by decide +kernel
theorem d_Model_gives_28 : decode u_Model_gives.2.2.1 28 = .ok (.iaload, 1) := by decide +kernel
theorem d_Model_gives_29 : decode u_Model_gives.2.2.1 29 = .ok (.iload_n 1, 1) := by decide +kernel
theorem d_Model_gives_30 : decode u_Model_gives.2.2.1 30 = .ok (.iastore, 1) := by decide +kernel
theorem d_Model_gives_31 : decode u_Model_gives.2.2.1 31 = .ok (.iinc 3 1, 3) := by decide +kernel
theorem d_Model_gives_34 : decode u_Model_gives.2.2.1 34 = .ok (.goto (-32), 3) := by decide +kernel
theorem d_Model_gives_37 : decode u_Model_gives.2.2.1 37 = .ok (.return_, 1) := by decide +kernel
theorem w_Model_gives : am_code y_Model_gives u_Model_gives ∈ am_ws := am_mem (List.mem_of_getElem? (i := 1351) (by decide +kernel)) rfl
def a_Model_gives_0 (rc : Nat → Nat → Int32 → Int32 → Int32 → am_M → Option (Unit × am_M)) (r0 : Nat) (x1 : Int32) (x2 : Int32) (x3 : Int32) (M : am_M) : Option (Unit × am_M) := (q_gti M r0 10 49).bind (fun t4 => if t4 ≤ x3 then (some ((), M)) else (if ((x2 >>> (x3 &&& 31)) &&& (1 : Int32)) = (1 : Int32) then ((q_gtr M r0 10 43).bind (fun t20 => (q_gtr M r0 10 48).bind (fun t24 => (q_ldi M t24 x3).bind (fun t28 => (q_sti M t20 t28 x1).bind (fun M30 => rc 1 r0 x1 x2 x3 M30))))) else (rc 1 r0 x1 x2 x3 M)))
def a_Model_gives_1 (rc : Nat → Nat → Int32 → Int32 → Int32 → am_M → Option (Unit × am_M)) (r0 : Nat) (x1 : Int32) (x2 : Int32) (x3 : Int32) (M : am_M) : Option (Unit × am_M) := rc 0 r0 x1 x2 (x3 + (1 : Int32)) M
def g_Model_gives : Nat → Nat → Nat → Int32 → Int32 → Int32 → am_M → Option (Unit × am_M)
  | 0, _, _, _, _, _, _ => none
  | F + 1, 0, r0, x1, x2, x3, M => a_Model_gives_0 (g_Model_gives F) r0 x1 x2 x3 M
  | F + 1, 1, r0, x1, x2, x3, M => a_Model_gives_1 (g_Model_gives F) r0 x1 x2 x3 M
  | _ + 1, _ + 2, _, _, _, _, _ => none
def e_Model_gives (rc : Nat → Nat → Int32 → Int32 → Int32 → am_M → Option (Unit × am_M)) (M : am_M) (a0 : Nat) (a1 : Int32) (a2 : Int32) : Option (Unit × am_M) := rc 0 a0 a1 a2 (0 : Int32) M
def f_Model_gives (M : am_M) (a0 : Nat) (a1 : Int32) (a2 : Int32) : Option (Unit × am_M) := e_Model_gives (g_Model_gives 1000000000) M a0 a1 a2
theorem fl_Model_143 : am_fl "CrewOfficeModel" 143 10 48 := ⟨by decide, by decide, List.mem_of_getElem? (i := 1054) (by decide +kernel)⟩
theorem fl_Model_255 : am_fl "CrewOfficeModel" 255 10 49 := ⟨by decide, by decide, List.mem_of_getElem? (i := 1055) (by decide +kernel)⟩
set_option maxHeartbeats 4000000 in
theorem s_Model_gives_0 {rc : Nat → Nat → Int32 → Int32 → Int32 → am_M → Option (Unit × am_M)} {res : Unit} {M' : am_M} (ih_0 : ∀ (r0 : Nat) (x1 : Int32) (x2 : Int32) (x3 : Int32) (M : am_M), rc 0 r0 x1 x2 x3 M = some (res, M') → AW u_Model_gives R_Model_gives 0 0 2 [(0, .ref r0), (1, .int x1), (2, .int x2), (3, .int x3)] [] M (fun r M2 => r = .inl none ∧ M2 = M')) (ih_1 : ∀ (r0 : Nat) (x1 : Int32) (x2 : Int32) (x3 : Int32) (M : am_M), rc 1 r0 x1 x2 x3 M = some (res, M') → AW u_Model_gives R_Model_gives 0 0 31 [(0, .ref r0), (1, .int x1), (2, .int x2), (3, .int x3)] [] M (fun r M2 => r = .inl none ∧ M2 = M')) : ∀ (r0 : Nat) (x1 : Int32) (x2 : Int32) (x3 : Int32) (M : am_M), a_Model_gives_0 rc r0 x1 x2 x3 M = some (res, M') → AW u_Model_gives R_Model_gives 0 0 2 [(0, .ref r0), (1, .int x1), (2, .int x2), (3, .int x3)] [] M (fun r M2 => r = .inl none ∧ M2 = M') := by
  intro r0 x1 x2 x3 M h
  unfold a_Model_gives_0 at h
  refine aw_iload_n d_Model_gives_2 rfl rfl ?_
  refine aw_aload_n d_Model_gives_3 rfl rfl ?_
  obtain ⟨t4, e_t4, h⟩ := q_bind h
  refine aw_gti d_Model_gives_4 fl_Model_255 (Or.inl rfl) e_t4 ?_
  refine aw_icmp_ge (tgt := 37) d_Model_gives_7 (by decide) (fun hc => ?_) (fun hc => ?_)
  · rw [if_pos hc] at h
    cases h
    exact aw_vreturn d_Model_gives_37 rfl (Nat.le_of_ble_eq_true rfl) (Nat.le_of_ble_eq_true rfl) ⟨rfl, rfl⟩
  · rw [if_neg hc] at h
    refine aw_iload_n d_Model_gives_10 rfl rfl ?_
    refine aw_iload_n d_Model_gives_11 rfl rfl ?_
    refine aw_ishr d_Model_gives_12 ?_
    refine aw_iconst (v := 1) d_Model_gives_13 (by decide) ?_
    refine aw_iand d_Model_gives_14 ?_
    refine aw_iconst (v := 1) d_Model_gives_15 (by decide) ?_
    refine aw_icmp_ne (tgt := 31) d_Model_gives_16 (by decide) (fun hc => ?_) (fun hc => ?_)
    · rw [if_neg hc] at h
      exact aw_pick [0, 1, 2, 3] rfl (ih_1 _ _ _ _ _ h)
    · rw [if_pos hc] at h
      refine aw_aload_n d_Model_gives_19 rfl rfl ?_
      obtain ⟨t20, e_t20, h⟩ := q_bind h
      refine aw_gtr d_Model_gives_20 fl_Model_127 (Or.inr ⟨_, rfl⟩) e_t20 ?_
      refine aw_aload_n d_Model_gives_23 rfl rfl ?_
      obtain ⟨t24, e_t24, h⟩ := q_bind h
      refine aw_gtr d_Model_gives_24 fl_Model_143 (Or.inr ⟨_, rfl⟩) e_t24 ?_
      refine aw_iload_n d_Model_gives_27 rfl rfl ?_
      obtain ⟨t28, e_t28, h⟩ := q_bind h
      refine aw_ldi d_Model_gives_28 e_t28 ?_
      refine aw_iload_n d_Model_gives_29 rfl rfl ?_
      obtain ⟨M30, e_M30, h⟩ := q_bind h
      refine aw_sti d_Model_gives_30 e_M30 ?_
      exact aw_pick [0, 1, 2, 3] rfl (ih_1 _ _ _ _ _ h)
set_option maxHeartbeats 4000000 in
theorem s_Model_gives_1 {rc : Nat → Nat → Int32 → Int32 → Int32 → am_M → Option (Unit × am_M)} {res : Unit} {M' : am_M} (ih_0 : ∀ (r0 : Nat) (x1 : Int32) (x2 : Int32) (x3 : Int32) (M : am_M), rc 0 r0 x1 x2 x3 M = some (res, M') → AW u_Model_gives R_Model_gives 0 0 2 [(0, .ref r0), (1, .int x1), (2, .int x2), (3, .int x3)] [] M (fun r M2 => r = .inl none ∧ M2 = M')) (ih_1 : ∀ (r0 : Nat) (x1 : Int32) (x2 : Int32) (x3 : Int32) (M : am_M), rc 1 r0 x1 x2 x3 M = some (res, M') → AW u_Model_gives R_Model_gives 0 0 31 [(0, .ref r0), (1, .int x1), (2, .int x2), (3, .int x3)] [] M (fun r M2 => r = .inl none ∧ M2 = M')) : ∀ (r0 : Nat) (x1 : Int32) (x2 : Int32) (x3 : Int32) (M : am_M), a_Model_gives_1 rc r0 x1 x2 x3 M = some (res, M') → AW u_Model_gives R_Model_gives 0 0 31 [(0, .ref r0), (1, .int x1), (2, .int x2), (3, .int x3)] [] M (fun r M2 => r = .inl none ∧ M2 = M') := by
  intro r0 x1 x2 x3 M h
  unfold a_Model_gives_1 at h
  refine aw_iinc (v := (x3 + (1 : Int32))) (ls' := [(3, .int _), (0, .ref _), (1, .int _), (2, .int _)]) d_Model_gives_31 rfl rfl (Nat.le_of_ble_eq_true rfl) rfl ?_
  refine aw_goto (tgt := 2) d_Model_gives_34 (by decide) ?_
  exact aw_pick [1, 2, 3, 0] rfl (ih_0 _ _ _ _ _ h)
theorem l_Model_gives {res : Unit} {M' : am_M} : ∀ F : Nat, (∀ (r0 : Nat) (x1 : Int32) (x2 : Int32) (x3 : Int32) (M : am_M), g_Model_gives F 0 r0 x1 x2 x3 M = some (res, M') → AW u_Model_gives R_Model_gives 0 0 2 [(0, .ref r0), (1, .int x1), (2, .int x2), (3, .int x3)] [] M (fun r M2 => r = .inl none ∧ M2 = M')) ∧ (∀ (r0 : Nat) (x1 : Int32) (x2 : Int32) (x3 : Int32) (M : am_M), g_Model_gives F 1 r0 x1 x2 x3 M = some (res, M') → AW u_Model_gives R_Model_gives 0 0 31 [(0, .ref r0), (1, .int x1), (2, .int x2), (3, .int x3)] [] M (fun r M2 => r = .inl none ∧ M2 = M')) := by
  intro F
  induction F with
  | zero => exact ⟨fun _ _ _ _ _  h => (by cases h), fun _ _ _ _ _  h => (by cases h)⟩
  | succ F ih =>
    obtain ⟨ih0, ih1⟩ := ih
    exact ⟨s_Model_gives_0 ih0 ih1, s_Model_gives_1 ih0 ih1⟩
set_option maxHeartbeats 4000000 in
theorem mt_Model_gives {M : am_M} {a0 : Nat} {a1 : Int32} {a2 : Int32} {res : Unit} {M' : am_M} (h : f_Model_gives M a0 a1 a2 = some (res, M')) : AMet y_Model_gives u_Model_gives R_Model_gives [.ref a0, .int a1, .int a2] M (fun r M2 => r = .inl none ∧ M2 = M') := by
  refine am_met (by decide +kernel) w_Model_gives rfl rfl (Nat.le_of_ble_eq_true rfl) ?_
  show AW u_Model_gives R_Model_gives 0 0 0 [(0, .ref a0), (1, .int a1), (2, .int a2)] [] M (fun r M2 => r = .inl none ∧ M2 = M')
  have ih_0 := (l_Model_gives (res := res) (M' := M') 1000000000).1
  have ih_1 := (l_Model_gives (res := res) (M' := M') 1000000000).2
  unfold f_Model_gives at h
  unfold e_Model_gives at h
  generalize g_Model_gives 1000000000 = rc at h ih_0 ih_1
  refine aw_iconst (v := 0) d_Model_gives_0 (by decide) ?_
  refine aw_istore_n (ls' := [(3, .int _), (0, .ref _), (1, .int _), (2, .int _)]) d_Model_gives_1 rfl (Nat.le_of_ble_eq_true rfl) rfl ?_
  exact aw_pick [1, 2, 3, 0] rfl (ih_0 _ _ _ _ _ h)
def y_Model_takes : MethodName := ⟨"CrewOfficeModel", "takes", "(I)V"⟩
def u_Model_takes : am_U := ("CrewOfficeModel", "takes", prog_12_method_48_code, 3, none, [])
def R_Model_takes : Room := { frames := 0, cells := 0, slots := 0, locals := 0 }
theorem d_Model_takes_0 : decode u_Model_takes.2.2.1 0 = .ok (.iconst 0, 1) := by decide +kernel
theorem d_Model_takes_1 : decode u_Model_takes.2.2.1 1 = .ok (.istore_n 2, 1) := by decide +kernel
theorem d_Model_takes_2 : decode u_Model_takes.2.2.1 2 = .ok (.iload_n 2, 1) := by decide +kernel
theorem d_Model_takes_3 : decode u_Model_takes.2.2.1 3 = .ok (.aload_n 0, 1) := by decide +kernel
theorem d_Model_takes_4 : decode u_Model_takes.2.2.1 4 = .ok (.getfield 255, 3) := by decide +kernel
theorem d_Model_takes_7 : decode u_Model_takes.2.2.1 7 = .ok (.if_icmp .ge 30, 3) := by decide +kernel
theorem d_Model_takes_10 : decode u_Model_takes.2.2.1 10 = .ok (.iload_n 1, 1) := by decide +kernel
theorem d_Model_takes_11 : decode u_Model_takes.2.2.1 11 = .ok (.iload_n 2, 1) := by decide +kernel
theorem d_Model_takes_12 : decode u_Model_takes.2.2.1 12 = .ok (.ishr, 1) := by decide +kernel
theorem d_Model_takes_13 : decode u_Model_takes.2.2.1 13 = .ok (.iconst 1, 1) := by decide +kernel
theorem d_Model_takes_14 : decode u_Model_takes.2.2.1 14 = .ok (.iand, 1) := by decide +kernel
theorem d_Model_takes_15 : decode u_Model_takes.2.2.1 15 = .ok (.iconst 1, 1) := by decide +kernel
theorem d_Model_takes_16 : decode u_Model_takes.2.2.1 16 = .ok (.if_icmp .ne 15, 3) := by decide +kernel
theorem d_Model_takes_19 : decode u_Model_takes.2.2.1 19 = .ok (.aload_n 0, 1) := by decide +kernel
theorem d_Model_takes_20 : decode u_Model_takes.2.2.1 20 = .ok (.getfield 127, 3) := by decide +kernel
theorem d_Model_takes_23 : decode u_Model_takes.2.2.1 23 = .ok (.aload_n 0, 1) := by decide +kernel
theorem d_Model_takes_24 : decode u_Model_takes.2.2.1 24 = .ok (.getfield 143, 3) := by decide +kernel
theorem d_Model_takes_27 : decode u_Model_takes.2.2.1 27 = .ok (.iload_n 2, 1) := by decide +kernel
theorem d_Model_takes_28 : decode u_Model_takes.2.2.1 28 = .ok (.iaload, 1) := by decide +kernel
theorem d_Model_takes_29 : decode u_Model_takes.2.2.1 29 = .ok (.iconst (-1), 1) := by decide +kernel
theorem d_Model_takes_30 : decode u_Model_takes.2.2.1 30 = .ok (.iastore, 1) := by decide +kernel
theorem d_Model_takes_31 : decode u_Model_takes.2.2.1 31 = .ok (.iinc 2 1, 3) := by decide +kernel
theorem d_Model_takes_34 : decode u_Model_takes.2.2.1 34 = .ok (.goto (-32), 3) := by decide +kernel
theorem d_Model_takes_37 : decode u_Model_takes.2.2.1 37 = .ok (.return_, 1) := by decide +kernel
theorem w_Model_takes : am_code y_Model_takes u_Model_takes ∈ am_ws := am_mem (List.mem_of_getElem? (i := 1363) (by decide +kernel)) rfl
def a_Model_takes_0 (rc : Nat → Nat → Int32 → Int32 → am_M → Option (Unit × am_M)) (r0 : Nat) (x1 : Int32) (x2 : Int32) (M : am_M) : Option (Unit × am_M) := (q_gti M r0 10 49).bind (fun t4 => if t4 ≤ x2 then (some ((), M)) else (if ((x1 >>> (x2 &&& 31)) &&& (1 : Int32)) = (1 : Int32) then ((q_gtr M r0 10 43).bind (fun t20 => (q_gtr M r0 10 48).bind (fun t24 => (q_ldi M t24 x2).bind (fun t28 => (q_sti M t20 t28 (-1 : Int32)).bind (fun M30 => rc 1 r0 x1 x2 M30))))) else (rc 1 r0 x1 x2 M)))
def a_Model_takes_1 (rc : Nat → Nat → Int32 → Int32 → am_M → Option (Unit × am_M)) (r0 : Nat) (x1 : Int32) (x2 : Int32) (M : am_M) : Option (Unit × am_M) := rc 0 r0 x1 (x2 + (1 : Int32)) M
def g_Model_takes : Nat → Nat → Nat → Int32 → Int32 → am_M → Option (Unit × am_M)
  | 0, _, _, _, _, _ => none
  | F + 1, 0, r0, x1, x2, M => a_Model_takes_0 (g_Model_takes F) r0 x1 x2 M
  | F + 1, 1, r0, x1, x2, M => a_Model_takes_1 (g_Model_takes F) r0 x1 x2 M
  | _ + 1, _ + 2, _, _, _, _ => none
def e_Model_takes (rc : Nat → Nat → Int32 → Int32 → am_M → Option (Unit × am_M)) (M : am_M) (a0 : Nat) (a1 : Int32) : Option (Unit × am_M) := rc 0 a0 a1 (0 : Int32) M
def f_Model_takes (M : am_M) (a0 : Nat) (a1 : Int32) : Option (Unit × am_M) := e_Model_takes (g_Model_takes 1000000000) M a0 a1
set_option maxHeartbeats 4000000 in
theorem s_Model_takes_0 {rc : Nat → Nat → Int32 → Int32 → am_M → Option (Unit × am_M)} {res : Unit} {M' : am_M} (ih_0 : ∀ (r0 : Nat) (x1 : Int32) (x2 : Int32) (M : am_M), rc 0 r0 x1 x2 M = some (res, M') → AW u_Model_takes R_Model_takes 0 0 2 [(0, .ref r0), (1, .int x1), (2, .int x2)] [] M (fun r M2 => r = .inl none ∧ M2 = M')) (ih_1 : ∀ (r0 : Nat) (x1 : Int32) (x2 : Int32) (M : am_M), rc 1 r0 x1 x2 M = some (res, M') → AW u_Model_takes R_Model_takes 0 0 31 [(0, .ref r0), (1, .int x1), (2, .int x2)] [] M (fun r M2 => r = .inl none ∧ M2 = M')) : ∀ (r0 : Nat) (x1 : Int32) (x2 : Int32) (M : am_M), a_Model_takes_0 rc r0 x1 x2 M = some (res, M') → AW u_Model_takes R_Model_takes 0 0 2 [(0, .ref r0), (1, .int x1), (2, .int x2)] [] M (fun r M2 => r = .inl none ∧ M2 = M') := by
  intro r0 x1 x2 M h
  unfold a_Model_takes_0 at h
  refine aw_iload_n d_Model_takes_2 rfl rfl ?_
  refine aw_aload_n d_Model_takes_3 rfl rfl ?_
  obtain ⟨t4, e_t4, h⟩ := q_bind h
  refine aw_gti d_Model_takes_4 fl_Model_255 (Or.inl rfl) e_t4 ?_
  refine aw_icmp_ge (tgt := 37) d_Model_takes_7 (by decide) (fun hc => ?_) (fun hc => ?_)
  · rw [if_pos hc] at h
    cases h
    exact aw_vreturn d_Model_takes_37 rfl (Nat.le_of_ble_eq_true rfl) (Nat.le_of_ble_eq_true rfl) ⟨rfl, rfl⟩
  · rw [if_neg hc] at h
    refine aw_iload_n d_Model_takes_10 rfl rfl ?_
    refine aw_iload_n d_Model_takes_11 rfl rfl ?_
    refine aw_ishr d_Model_takes_12 ?_
    refine aw_iconst (v := 1) d_Model_takes_13 (by decide) ?_
    refine aw_iand d_Model_takes_14 ?_
    refine aw_iconst (v := 1) d_Model_takes_15 (by decide) ?_
    refine aw_icmp_ne (tgt := 31) d_Model_takes_16 (by decide) (fun hc => ?_) (fun hc => ?_)
    · rw [if_neg hc] at h
      exact aw_pick [0, 1, 2] rfl (ih_1 _ _ _ _ h)
    · rw [if_pos hc] at h
      refine aw_aload_n d_Model_takes_19 rfl rfl ?_
      obtain ⟨t20, e_t20, h⟩ := q_bind h
      refine aw_gtr d_Model_takes_20 fl_Model_127 (Or.inr ⟨_, rfl⟩) e_t20 ?_
      refine aw_aload_n d_Model_takes_23 rfl rfl ?_
      obtain ⟨t24, e_t24, h⟩ := q_bind h
      refine aw_gtr d_Model_takes_24 fl_Model_143 (Or.inr ⟨_, rfl⟩) e_t24 ?_
      refine aw_iload_n d_Model_takes_27 rfl rfl ?_
      obtain ⟨t28, e_t28, h⟩ := q_bind h
      refine aw_ldi d_Model_takes_28 e_t28 ?_
      refine aw_iconst (v := -1) d_Model_takes_29 (by decide) ?_
      obtain ⟨M30, e_M30, h⟩ := q_bind h
      refine aw_sti d_Model_takes_30 e_M30 ?_
      exact aw_pick [0, 1, 2] rfl (ih_1 _ _ _ _ h)
set_option maxHeartbeats 4000000 in
theorem s_Model_takes_1 {rc : Nat → Nat → Int32 → Int32 → am_M → Option (Unit × am_M)} {res : Unit} {M' : am_M} (ih_0 : ∀ (r0 : Nat) (x1 : Int32) (x2 : Int32) (M : am_M), rc 0 r0 x1 x2 M = some (res, M') → AW u_Model_takes R_Model_takes 0 0 2 [(0, .ref r0), (1, .int x1), (2, .int x2)] [] M (fun r M2 => r = .inl none ∧ M2 = M')) (ih_1 : ∀ (r0 : Nat) (x1 : Int32) (x2 : Int32) (M : am_M), rc 1 r0 x1 x2 M = some (res, M') → AW u_Model_takes R_Model_takes 0 0 31 [(0, .ref r0), (1, .int x1), (2, .int x2)] [] M (fun r M2 => r = .inl none ∧ M2 = M')) : ∀ (r0 : Nat) (x1 : Int32) (x2 : Int32) (M : am_M), a_Model_takes_1 rc r0 x1 x2 M = some (res, M') → AW u_Model_takes R_Model_takes 0 0 31 [(0, .ref r0), (1, .int x1), (2, .int x2)] [] M (fun r M2 => r = .inl none ∧ M2 = M') := by
  intro r0 x1 x2 M h
  unfold a_Model_takes_1 at h
  refine aw_iinc (v := (x2 + (1 : Int32))) (ls' := [(2, .int _), (0, .ref _), (1, .int _)]) d_Model_takes_31 rfl rfl (Nat.le_of_ble_eq_true rfl) rfl ?_
  refine aw_goto (tgt := 2) d_Model_takes_34 (by decide) ?_
  exact aw_pick [1, 2, 0] rfl (ih_0 _ _ _ _ h)
theorem l_Model_takes {res : Unit} {M' : am_M} : ∀ F : Nat, (∀ (r0 : Nat) (x1 : Int32) (x2 : Int32) (M : am_M), g_Model_takes F 0 r0 x1 x2 M = some (res, M') → AW u_Model_takes R_Model_takes 0 0 2 [(0, .ref r0), (1, .int x1), (2, .int x2)] [] M (fun r M2 => r = .inl none ∧ M2 = M')) ∧ (∀ (r0 : Nat) (x1 : Int32) (x2 : Int32) (M : am_M), g_Model_takes F 1 r0 x1 x2 M = some (res, M') → AW u_Model_takes R_Model_takes 0 0 31 [(0, .ref r0), (1, .int x1), (2, .int x2)] [] M (fun r M2 => r = .inl none ∧ M2 = M')) := by
  intro F
  induction F with
  | zero => exact ⟨fun _ _ _ _  h => (by cases h), fun _ _ _ _  h => (by cases h)⟩
  | succ F ih =>
    obtain ⟨ih0, ih1⟩ := ih
    exact ⟨s_Model_takes_0 ih0 ih1, s_Model_takes_1 ih0 ih1⟩
set_option maxHeartbeats 4000000 in
theorem mt_Model_takes {M : am_M} {a0 : Nat} {a1 : Int32} {res : Unit} {M' : am_M} (h : f_Model_takes M a0 a1 = some (res, M')) : AMet y_Model_takes u_Model_takes R_Model_takes [.ref a0, .int a1] M (fun r M2 => r = .inl none ∧ M2 = M') := by
  refine am_met (by decide +kernel) w_Model_takes rfl rfl (Nat.le_of_ble_eq_true rfl) ?_
  show AW u_Model_takes R_Model_takes 0 0 0 [(0, .ref a0), (1, .int a1)] [] M (fun r M2 => r = .inl none ∧ M2 = M')
  have ih_0 := (l_Model_takes (res := res) (M' := M') 1000000000).1
  have ih_1 := (l_Model_takes (res := res) (M' := M') 1000000000).2
  unfold f_Model_takes at h
  unfold e_Model_takes at h
  generalize g_Model_takes 1000000000 = rc at h ih_0 ih_1
  refine aw_iconst (v := 0) d_Model_takes_0 (by decide) ?_
  refine aw_istore_n (ls' := [(2, .int _), (0, .ref _), (1, .int _)]) d_Model_takes_1 rfl (Nat.le_of_ble_eq_true rfl) rfl ?_
  exact aw_pick [1, 2, 0] rfl (ih_0 _ _ _ _ h)
def y_Model_chooses : MethodName := ⟨"CrewOfficeModel", "chooses", "(II)I"⟩
def u_Model_chooses : am_U := ("CrewOfficeModel", "chooses", prog_12_method_49_code, 7, (some .int), [])
def R_Model_chooses : Room := { frames := 2, cells := 0, slots := 0, locals := 49 }
theorem d_Model_chooses_0 : decode u_Model_chooses.2.2.1 0 = .ok (.iconst (-1), 1) := by decide +kernel
theorem d_Model_chooses_1 : decode u_Model_chooses.2.2.1 1 = .ok (.istore_n 3, 1) := by decide +kernel
theorem d_Model_chooses_2 : decode u_Model_chooses.2.2.1 2 = .ok (.iconst 0, 1) := by decide +kernel
theorem d_Model_chooses_3 : decode u_Model_chooses.2.2.1 3 = .ok (.istore 4, 2) := by decide +kernel
theorem d_Model_chooses_5 : decode u_Model_chooses.2.2.1 5 = .ok (.iconst 0, 1) := by decide +kernel
theorem d_Model_chooses_6 : decode u_Model_chooses.2.2.1 6 = .ok (.istore 5, 2) := by decide +kernel
theorem d_Model_chooses_8 : decode u_Model_chooses.2.2.1 8 = .ok (.iload 5, 2) := by decide +kernel
theorem d_Model_chooses_10 : decode u_Model_chooses.2.2.1 10 = .ok (.iload_n 2, 1) := by decide +kernel
theorem d_Model_chooses_11 : decode u_Model_chooses.2.2.1 11 = .ok (.if_icmp .gt 125, 3) := by decide +kernel
theorem d_Model_chooses_14 : decode u_Model_chooses.2.2.1 14 = .ok (.iload 5, 2) := by decide +kernel
theorem d_Model_chooses_16 : decode u_Model_chooses.2.2.1 16 = .ok (.iload_n 2, 1) := by decide +kernel
theorem d_Model_chooses_17 : decode u_Model_chooses.2.2.1 17 = .ok (.ior, 1) := by decide +kernel
theorem d_Model_chooses_18 : decode u_Model_chooses.2.2.1 18 = .ok (.iload_n 2, 1) := by decide +kernel
theorem d_Model_chooses_19 : decode u_Model_chooses.2.2.1 19 = .ok (.if_icmp .ne 111, 3) := by decide +kernel
theorem d_Model_chooses_22 : decode u_Model_chooses.2.2.1 22 = .ok (.aload_n 0, 1) := by decide +kernel
theorem d_Model_chooses_23 : decode u_Model_chooses.2.2.1 23 = .ok (.getfield 149, 3) := by decide +kernel
theorem d_Model_chooses_26 : decode u_Model_chooses.2.2.1 26 = .ok (.sipush 4096, 3) := by decide +kernel
theorem d_Model_chooses_29 : decode u_Model_chooses.2.2.1 29 = .ok (.iload_n 1, 1) := by decide +kernel
theorem d_Model_chooses_30 : decode u_Model_chooses.2.2.1 30 = .ok (.imul, 1) := by decide +kernel
theorem d_Model_chooses_31 : decode u_Model_chooses.2.2.1 31 = .ok (.iload 5, 2) := by decide +kernel
theorem d_Model_chooses_33 : decode u_Model_chooses.2.2.1 33 = .ok (.iadd, 1) := by decide +kernel
theorem d_Model_chooses_34 : decode u_Model_chooses.2.2.1 34 = .ok (.baload, 1) := by decide +kernel
theorem d_Model_chooses_35 : decode u_Model_chooses.2.2.1 35 = .ok (.ifCond .eq 95, 3) := by decide +kernel
theorem d_Model_chooses_38 : decode u_Model_chooses.2.2.1 38 = .ok (.aload_n 0, 1) := by decide +kernel
theorem d_Model_chooses_39 : decode u_Model_chooses.2.2.1 39 = .ok (.getfield 152, 3) := by decide +kernel
theorem d_Model_chooses_42 : decode u_Model_chooses.2.2.1 42 = .ok (.sipush 4096, 3) := by decide +kernel
theorem d_Model_chooses_45 : decode u_Model_chooses.2.2.1 45 = .ok (.iload_n 1, 1) := by decide +kernel
theorem d_Model_chooses_46 : decode u_Model_chooses.2.2.1 46 = .ok (.iconst 1, 1) := by decide +kernel
theorem d_Model_chooses_47 : decode u_Model_chooses.2.2.1 47 = .ok (.iadd, 1) := by decide +kernel
theorem d_Model_chooses_48 : decode u_Model_chooses.2.2.1 48 = .ok (.imul, 1) := by decide +kernel
theorem d_Model_chooses_49 : decode u_Model_chooses.2.2.1 49 = .ok (.iload_n 2, 1) := by decide +kernel
theorem d_Model_chooses_50 : decode u_Model_chooses.2.2.1 50 = .ok (.iload 5, 2) := by decide +kernel
theorem d_Model_chooses_52 : decode u_Model_chooses.2.2.1 52 = .ok (.ixor, 1) := by decide +kernel
theorem d_Model_chooses_53 : decode u_Model_chooses.2.2.1 53 = .ok (.iadd, 1) := by decide +kernel
theorem d_Model_chooses_54 : decode u_Model_chooses.2.2.1 54 = .ok (.baload, 1) := by decide +kernel
theorem d_Model_chooses_55 : decode u_Model_chooses.2.2.1 55 = .ok (.ifCond .ne 6, 3) := by decide +kernel
theorem d_Model_chooses_58 : decode u_Model_chooses.2.2.1 58 = .ok (.goto 72, 3) := by decide +kernel
theorem d_Model_chooses_61 : decode u_Model_chooses.2.2.1 61 = .ok (.aload_n 0, 1) := by decide +kernel
theorem d_Model_chooses_62 : decode u_Model_chooses.2.2.1 62 = .ok (.aload_n 0, 1) := by decide +kernel
theorem d_Model_chooses_63 : decode u_Model_chooses.2.2.1 63 = .ok (.getfield 146, 3) := by decide +kernel
theorem d_Model_chooses_66 : decode u_Model_chooses.2.2.1 66 = .ok (.iload_n 1, 1) := by decide +kernel
theorem d_Model_chooses_67 : decode u_Model_chooses.2.2.1 67 = .ok (.iaload, 1) := by decide +kernel
theorem d_Model_chooses_68 : decode u_Model_chooses.2.2.1 68 = .ok (.iload 5, 2) := by decide +kernel
theorem d_Model_chooses_70 : decode u_Model_chooses.2.2.1 70 = .ok (.invokevirtual 264, 3) := by decide +kernel
theorem d_Model_chooses_73 : decode u_Model_chooses.2.2.1 73 = .ok (.aload_n 0, 1) := by decide +kernel
theorem d_Model_chooses_74 : decode u_Model_chooses.2.2.1 74 = .ok (.aload_n 0, 1) := by decide +kernel
theorem d_Model_chooses_75 : decode u_Model_chooses.2.2.1 75 = .ok (.getfield 146, 3) := by decide +kernel
theorem d_Model_chooses_78 : decode u_Model_chooses.2.2.1 78 = .ok (.iload_n 1, 1) := by decide +kernel
theorem d_Model_chooses_79 : decode u_Model_chooses.2.2.1 79 = .ok (.iaload, 1) := by decide +kernel
theorem d_Model_chooses_80 : decode u_Model_chooses.2.2.1 80 = .ok (.invokevirtual 267, 3) := by decide +kernel
theorem d_Model_chooses_83 : decode u_Model_chooses.2.2.1 83 = .ok (.istore 6, 2) := by decide +kernel
theorem d_Model_chooses_85 : decode u_Model_chooses.2.2.1 85 = .ok (.aload_n 0, 1) := by decide +kernel
theorem d_Model_chooses_86 : decode u_Model_chooses.2.2.1 86 = .ok (.iload 5, 2) := by decide +kernel
theorem d_Model_chooses_88 : decode u_Model_chooses.2.2.1 88 = .ok (.invokevirtual 270, 3) := by decide +kernel
theorem d_Model_chooses_91 : decode u_Model_chooses.2.2.1 91 = .ok (.iload_n 3, 1) := by decide +kernel
theorem d_Model_chooses_92 : decode u_Model_chooses.2.2.1 92 = .ok (.ifCond .lt 31, 3) := by decide +kernel
theorem d_Model_chooses_95 : decode u_Model_chooses.2.2.1 95 = .ok (.iload 6, 2) := by decide +kernel
theorem d_Model_chooses_97 : decode u_Model_chooses.2.2.1 97 = .ok (.iload 4, 2) := by decide +kernel
theorem d_Model_chooses_99 : decode u_Model_chooses.2.2.1 99 = .ok (.if_icmp .lt 31, 3) := by decide +kernel
theorem d_Model_chooses_102 : decode u_Model_chooses.2.2.1 102 = .ok (.iload 6, 2) := by decide +kernel
theorem d_Model_chooses_104 : decode u_Model_chooses.2.2.1 104 = .ok (.iload 4, 2) := by decide +kernel
theorem d_Model_chooses_106 : decode u_Model_chooses.2.2.1 106 = .ok (.if_icmp .ne 17, 3) := by decide +kernel
theorem d_Model_chooses_109 : decode u_Model_chooses.2.2.1 109 = .ok (.iload 5, 2) := by decide +kernel
theorem d_Model_chooses_111 : decode u_Model_chooses.2.2.1 111 = .ok (.i2l, 1) := by decide +kernel
theorem d_Model_chooses_112 : decode u_Model_chooses.2.2.1 112 = .ok (.iload_n 3, 1) := by decide +kernel
theorem d_Model_chooses_113 : decode u_Model_chooses.2.2.1 113 = .ok (.i2l, 1) := by decide +kernel
theorem d_Model_chooses_114 : decode u_Model_chooses.2.2.1 114 = .ok (.invokestatic 248, 3) := by decide +kernel
theorem d_Model_chooses_117 : decode u_Model_chooses.2.2.1 117 = .ok (.ifCond .ne 6, 3) := by decide +kernel
theorem d_Model_chooses_120 : decode u_Model_chooses.2.2.1 120 = .ok (.goto 10, 3) := by decide +kernel
theorem d_Model_chooses_123 : decode u_Model_chooses.2.2.1 123 = .ok (.iload 5, 2) := by decide +kernel
theorem d_Model_chooses_125 : decode u_Model_chooses.2.2.1 125 = .ok (.istore_n 3, 1) := by decide +kernel
theorem d_Model_chooses_126 : decode u_Model_chooses.2.2.1 126 = .ok (.iload 6, 2) := by decide +kernel
theorem d_Model_chooses_128 : decode u_Model_chooses.2.2.1 128 = .ok (.istore 4, 2) := by decide +kernel
theorem d_Model_chooses_130 : decode u_Model_chooses.2.2.1 130 = .ok (.iinc 5 1, 3) := by decide +kernel
theorem d_Model_chooses_133 : decode u_Model_chooses.2.2.1 133 = .ok (.goto (-125), 3) := by decide +kernel
theorem d_Model_chooses_136 : decode u_Model_chooses.2.2.1 136 = .ok (.iload_n 3, 1) := by decide +kernel
theorem d_Model_chooses_137 : decode u_Model_chooses.2.2.1 137 = .ok (.ireturn, 1) := by decide +kernel
theorem w_Model_chooses : am_code y_Model_chooses u_Model_chooses ∈ am_ws := am_mem (List.mem_of_getElem? (i := 1347) (by decide +kernel)) rfl
def a_Model_chooses_0 (rc : Nat → Nat → Int32 → Int32 → Int32 → Int32 → Int32 → Int32 → am_M → Option (Int32 × am_M)) (r0 : Nat) (x1 : Int32) (x2 : Int32) (x3 : Int32) (x4 : Int32) (x5 : Int32) (x6 : Int32) (M : am_M) : Option (Int32 × am_M) := if x2 < x5 then (some (x3, M)) else (if (x5 ||| x2) = x2 then ((q_gtr M r0 10 52).bind (fun t23 => (q_ldz M t23 (((4096 : Int32) * x1) + x5)).bind (fun t34 => if t34 = 0 then (rc 2 r0 x1 x2 x3 x4 x5 0 M) else ((q_gtr M r0 10 53).bind (fun t39 => (q_ldz M t39 (((4096 : Int32) * (x1 + (1 : Int32))) + (x2 ^^^ x5))).bind (fun t54 => if t54 = 0 then (rc 2 r0 x1 x2 x3 x4 x5 0 M) else ((q_gtr M r0 10 50).bind (fun t63 => (q_ldi M t63 x1).bind (fun t67 => (q_ob M r0 10).bind (fun o70 => (f_Model_gives M r0 t67 x5).bind (fun p70 => (q_gtr p70.2 r0 10 50).bind (fun t75 => (q_ldi p70.2 t75 x1).bind (fun t79 => (q_ob p70.2 r0 10).bind (fun o80 => (f_Model_scoreOf p70.2 r0 t79).bind (fun t80 => (q_ob p70.2 r0 10).bind (fun o88 => (f_Model_takes p70.2 r0 x5).bind (fun p88 => if x3 < 0 then (rc 1 r0 x1 x2 0 0 x5 t80 p88.2) else (if t80 < x4 then (rc 2 r0 x1 x2 x3 x4 x5 0 p88.2) else (if t80 = x4 then ((f_Model_isBetter p88.2 ((x5).toInt64) ((x3).toInt64)).bind (fun t114 => if t114 = 0 then (rc 2 r0 x1 x2 x3 x4 x5 0 p88.2) else (rc 1 r0 x1 x2 0 0 x5 t80 p88.2))) else (rc 1 r0 x1 x2 0 0 x5 t80 p88.2)))))))))))))))))))) else (rc 2 r0 x1 x2 x3 x4 x5 0 M))
def a_Model_chooses_1 (rc : Nat → Nat → Int32 → Int32 → Int32 → Int32 → Int32 → Int32 → am_M → Option (Int32 × am_M)) (r0 : Nat) (x1 : Int32) (x2 : Int32) (x3 : Int32) (x4 : Int32) (x5 : Int32) (x6 : Int32) (M : am_M) : Option (Int32 × am_M) := rc 2 r0 x1 x2 x5 x6 x5 0 M
def a_Model_chooses_2 (rc : Nat → Nat → Int32 → Int32 → Int32 → Int32 → Int32 → Int32 → am_M → Option (Int32 × am_M)) (r0 : Nat) (x1 : Int32) (x2 : Int32) (x3 : Int32) (x4 : Int32) (x5 : Int32) (x6 : Int32) (M : am_M) : Option (Int32 × am_M) := rc 0 r0 x1 x2 x3 x4 (x5 + (1 : Int32)) 0 M
def g_Model_chooses : Nat → Nat → Nat → Int32 → Int32 → Int32 → Int32 → Int32 → Int32 → am_M → Option (Int32 × am_M)
  | 0, _, _, _, _, _, _, _, _, _ => none
  | F + 1, 0, r0, x1, x2, x3, x4, x5, x6, M => a_Model_chooses_0 (g_Model_chooses F) r0 x1 x2 x3 x4 x5 x6 M
  | F + 1, 1, r0, x1, x2, x3, x4, x5, x6, M => a_Model_chooses_1 (g_Model_chooses F) r0 x1 x2 x3 x4 x5 x6 M
  | F + 1, 2, r0, x1, x2, x3, x4, x5, x6, M => a_Model_chooses_2 (g_Model_chooses F) r0 x1 x2 x3 x4 x5 x6 M
  | _ + 1, _ + 3, _, _, _, _, _, _, _, _ => none
def e_Model_chooses (rc : Nat → Nat → Int32 → Int32 → Int32 → Int32 → Int32 → Int32 → am_M → Option (Int32 × am_M)) (M : am_M) (a0 : Nat) (a1 : Int32) (a2 : Int32) : Option (Int32 × am_M) := rc 0 a0 a1 a2 (-1 : Int32) (0 : Int32) (0 : Int32) 0 M
def f_Model_chooses (M : am_M) (a0 : Nat) (a1 : Int32) (a2 : Int32) : Option (Int32 × am_M) := e_Model_chooses (g_Model_chooses 1000000000) M a0 a1 a2
theorem fl_Model_149 : am_fl "CrewOfficeModel" 149 10 52 := ⟨by decide, by decide, List.mem_of_getElem? (i := 1058) (by decide +kernel)⟩
theorem fl_Model_152 : am_fl "CrewOfficeModel" 152 10 53 := ⟨by decide, by decide, List.mem_of_getElem? (i := 1059) (by decide +kernel)⟩
theorem kS_Model_248 : am_kS "CrewOfficeModel" 248 y_Model_isBetter u_Model_isBetter 2 := ⟨List.mem_of_getElem? (i := 1317) (by decide +kernel), List.mem_of_getElem? (i := 1318) (by decide +kernel), List.mem_of_getElem? (i := 65) (by decide +kernel), w_Model_isBetter, ⟨⟨by decide +kernel, by decide +kernel⟩, by decide +kernel⟩⟩
theorem kV_Model_264 : am_kV "CrewOfficeModel" 264 10 y_Model_gives u_Model_gives 2 := ⟨List.mem_of_getElem? (i := 1348) (by decide +kernel), ⟨List.mem_of_getElem? (i := 1350) (by decide +kernel), List.mem_of_getElem? (i := 49) (by decide +kernel)⟩, List.mem_of_getElem? (i := 65) (by decide +kernel), w_Model_gives, ⟨⟨by decide +kernel, by decide +kernel⟩, by decide +kernel⟩⟩
theorem kV_Model_267 : am_kV "CrewOfficeModel" 267 10 y_Model_scoreOf u_Model_scoreOf 1 := ⟨List.mem_of_getElem? (i := 1352) (by decide +kernel), ⟨List.mem_of_getElem? (i := 1354) (by decide +kernel), List.mem_of_getElem? (i := 50) (by decide +kernel)⟩, List.mem_of_getElem? (i := 65) (by decide +kernel), w_Model_scoreOf, ⟨⟨by decide +kernel, by decide +kernel⟩, by decide +kernel⟩⟩
theorem kV_Model_270 : am_kV "CrewOfficeModel" 270 10 y_Model_takes u_Model_takes 1 := ⟨List.mem_of_getElem? (i := 1360) (by decide +kernel), ⟨List.mem_of_getElem? (i := 1362) (by decide +kernel), List.mem_of_getElem? (i := 52) (by decide +kernel)⟩, List.mem_of_getElem? (i := 65) (by decide +kernel), w_Model_takes, ⟨⟨by decide +kernel, by decide +kernel⟩, by decide +kernel⟩⟩
set_option maxHeartbeats 4000000 in
theorem s_Model_chooses_0 {rc : Nat → Nat → Int32 → Int32 → Int32 → Int32 → Int32 → Int32 → am_M → Option (Int32 × am_M)} {res : Int32} {M' : am_M} (ih_0 : ∀ (r0 : Nat) (x1 : Int32) (x2 : Int32) (x3 : Int32) (x4 : Int32) (x5 : Int32) (x6 : Int32) (M : am_M), rc 0 r0 x1 x2 x3 x4 x5 x6 M = some (res, M') → AW u_Model_chooses R_Model_chooses 0 0 8 [(0, .ref r0), (1, .int x1), (2, .int x2), (3, .int x3), (4, .int x4), (5, .int x5)] [] M (fun r M2 => r = .inl (some (.int res)) ∧ M2 = M')) (ih_1 : ∀ (r0 : Nat) (x1 : Int32) (x2 : Int32) (x3 : Int32) (x4 : Int32) (x5 : Int32) (x6 : Int32) (M : am_M), rc 1 r0 x1 x2 x3 x4 x5 x6 M = some (res, M') → AW u_Model_chooses R_Model_chooses 0 0 123 [(0, .ref r0), (1, .int x1), (2, .int x2), (5, .int x5), (6, .int x6)] [] M (fun r M2 => r = .inl (some (.int res)) ∧ M2 = M')) (ih_2 : ∀ (r0 : Nat) (x1 : Int32) (x2 : Int32) (x3 : Int32) (x4 : Int32) (x5 : Int32) (x6 : Int32) (M : am_M), rc 2 r0 x1 x2 x3 x4 x5 x6 M = some (res, M') → AW u_Model_chooses R_Model_chooses 0 0 130 [(0, .ref r0), (1, .int x1), (2, .int x2), (3, .int x3), (4, .int x4), (5, .int x5)] [] M (fun r M2 => r = .inl (some (.int res)) ∧ M2 = M')) : ∀ (r0 : Nat) (x1 : Int32) (x2 : Int32) (x3 : Int32) (x4 : Int32) (x5 : Int32) (x6 : Int32) (M : am_M), a_Model_chooses_0 rc r0 x1 x2 x3 x4 x5 x6 M = some (res, M') → AW u_Model_chooses R_Model_chooses 0 0 8 [(0, .ref r0), (1, .int x1), (2, .int x2), (3, .int x3), (4, .int x4), (5, .int x5)] [] M (fun r M2 => r = .inl (some (.int res)) ∧ M2 = M') := by
  intro r0 x1 x2 x3 x4 x5 x6 M h
  unfold a_Model_chooses_0 at h
  refine aw_iload d_Model_chooses_8 rfl ?_
  refine aw_iload_n d_Model_chooses_10 rfl rfl ?_
  refine aw_icmp_gt (tgt := 136) d_Model_chooses_11 (by decide) (fun hc => ?_) (fun hc => ?_)
  · rw [if_pos hc] at h
    refine aw_iload_n d_Model_chooses_136 rfl rfl ?_
    cases h
    exact aw_ireturn d_Model_chooses_137 rfl (Nat.le_of_ble_eq_true rfl) (Nat.le_of_ble_eq_true rfl) ⟨rfl, rfl⟩
  · rw [if_neg hc] at h
    refine aw_iload d_Model_chooses_14 rfl ?_
    refine aw_iload_n d_Model_chooses_16 rfl rfl ?_
    refine aw_ior d_Model_chooses_17 ?_
    refine aw_iload_n d_Model_chooses_18 rfl rfl ?_
    refine aw_icmp_ne (tgt := 130) d_Model_chooses_19 (by decide) (fun hc => ?_) (fun hc => ?_)
    · rw [if_neg hc] at h
      exact aw_pick [0, 1, 2, 3, 4, 5] rfl (ih_2 _ _ _ _ _ _ _ _ h)
    · rw [if_pos hc] at h
      refine aw_aload_n d_Model_chooses_22 rfl rfl ?_
      obtain ⟨t23, e_t23, h⟩ := q_bind h
      refine aw_gtr d_Model_chooses_23 fl_Model_149 (Or.inr ⟨_, rfl⟩) e_t23 ?_
      refine aw_sipush (v := 4096) d_Model_chooses_26 (by decide) ?_
      refine aw_iload_n d_Model_chooses_29 rfl rfl ?_
      refine aw_imul d_Model_chooses_30 ?_
      refine aw_iload d_Model_chooses_31 rfl ?_
      refine aw_iadd d_Model_chooses_33 ?_
      obtain ⟨t34, e_t34, h⟩ := q_bind h
      refine aw_ldz d_Model_chooses_34 e_t34 ?_
      refine aw_if_eq (tgt := 130) d_Model_chooses_35 (by decide) (fun hc => ?_) (fun hc => ?_)
      · rw [if_pos hc] at h
        exact aw_pick [0, 1, 2, 3, 4, 5] rfl (ih_2 _ _ _ _ _ _ _ _ h)
      · rw [if_neg hc] at h
        refine aw_aload_n d_Model_chooses_38 rfl rfl ?_
        obtain ⟨t39, e_t39, h⟩ := q_bind h
        refine aw_gtr d_Model_chooses_39 fl_Model_152 (Or.inr ⟨_, rfl⟩) e_t39 ?_
        refine aw_sipush (v := 4096) d_Model_chooses_42 (by decide) ?_
        refine aw_iload_n d_Model_chooses_45 rfl rfl ?_
        refine aw_iconst (v := 1) d_Model_chooses_46 (by decide) ?_
        refine aw_iadd d_Model_chooses_47 ?_
        refine aw_imul d_Model_chooses_48 ?_
        refine aw_iload_n d_Model_chooses_49 rfl rfl ?_
        refine aw_iload d_Model_chooses_50 rfl ?_
        refine aw_ixor d_Model_chooses_52 ?_
        refine aw_iadd d_Model_chooses_53 ?_
        obtain ⟨t54, e_t54, h⟩ := q_bind h
        refine aw_ldz d_Model_chooses_54 e_t54 ?_
        refine aw_if_ne (tgt := 61) d_Model_chooses_55 (by decide) (fun hc => ?_) (fun hc => ?_)
        · rw [if_neg hc] at h
          refine aw_aload_n d_Model_chooses_61 rfl rfl ?_
          refine aw_aload_n d_Model_chooses_62 rfl rfl ?_
          obtain ⟨t63, e_t63, h⟩ := q_bind h
          refine aw_gtr d_Model_chooses_63 fl_Model_146 (Or.inr ⟨_, rfl⟩) e_t63 ?_
          refine aw_iload_n d_Model_chooses_66 rfl rfl ?_
          obtain ⟨t67, e_t67, h⟩ := q_bind h
          refine aw_ldi d_Model_chooses_67 e_t67 ?_
          refine aw_iload d_Model_chooses_68 rfl ?_
          obtain ⟨o70, e_o70, h⟩ := q_bind h
          obtain ⟨⟨t70, M70⟩, e_t70, h⟩ := q_bind h
          dsimp only at h
          refine aw_cV (v := none) (As := [.int t67, .int x5]) (rest := []) (st' := []) d_Model_chooses_70 kV_Model_264 (q_ob_spec e_o70).1 (q_ob_spec e_o70).2 ⟨Nat.le_of_ble_eq_true rfl, Nat.le_of_ble_eq_true rfl, Nat.le_of_ble_eq_true rfl, Nat.le_of_ble_eq_true rfl⟩ rfl rfl (Nat.le_of_ble_eq_true rfl) rfl (mt_Model_gives e_t70) ?_
          refine aw_aload_n d_Model_chooses_73 rfl rfl ?_
          refine aw_aload_n d_Model_chooses_74 rfl rfl ?_
          obtain ⟨t75, e_t75, h⟩ := q_bind h
          refine aw_gtr d_Model_chooses_75 fl_Model_146 (Or.inr ⟨_, rfl⟩) e_t75 ?_
          refine aw_iload_n d_Model_chooses_78 rfl rfl ?_
          obtain ⟨t79, e_t79, h⟩ := q_bind h
          refine aw_ldi d_Model_chooses_79 e_t79 ?_
          obtain ⟨o80, e_o80, h⟩ := q_bind h
          obtain ⟨t80, e_t80, h⟩ := q_bind h
          refine aw_cV (v := (some (.int t80))) (As := [.int t79]) (rest := []) (st' := [.int t80]) d_Model_chooses_80 kV_Model_267 (q_ob_spec e_o80).1 (q_ob_spec e_o80).2 ⟨Nat.le_of_ble_eq_true rfl, Nat.le_of_ble_eq_true rfl, Nat.le_of_ble_eq_true rfl, Nat.le_of_ble_eq_true rfl⟩ rfl rfl (Nat.le_of_ble_eq_true rfl) rfl (mt_Model_scoreOf e_t80) ?_
          refine aw_istore (ls' := [(6, .int _), (0, .ref _), (1, .int _), (2, .int _), (3, .int _), (4, .int _), (5, .int _)]) d_Model_chooses_83 (Nat.le_of_ble_eq_true rfl) rfl ?_
          refine aw_aload_n d_Model_chooses_85 rfl rfl ?_
          refine aw_iload d_Model_chooses_86 rfl ?_
          obtain ⟨o88, e_o88, h⟩ := q_bind h
          obtain ⟨⟨t88, M88⟩, e_t88, h⟩ := q_bind h
          dsimp only at h
          refine aw_cV (v := none) (As := [.int x5]) (rest := []) (st' := []) d_Model_chooses_88 kV_Model_270 (q_ob_spec e_o88).1 (q_ob_spec e_o88).2 ⟨Nat.le_of_ble_eq_true rfl, Nat.le_of_ble_eq_true rfl, Nat.le_of_ble_eq_true rfl, Nat.le_of_ble_eq_true rfl⟩ rfl rfl (Nat.le_of_ble_eq_true rfl) rfl (mt_Model_takes e_t88) ?_
          refine aw_iload_n d_Model_chooses_91 rfl rfl ?_
          refine aw_if_lt (tgt := 123) d_Model_chooses_92 (by decide) (fun hc => ?_) (fun hc => ?_)
          · rw [if_pos hc] at h
            exact aw_pick [1, 2, 3, 6, 0] rfl (ih_1 _ _ _ _ _ _ _ _ h)
          · rw [if_neg hc] at h
            refine aw_iload d_Model_chooses_95 rfl ?_
            refine aw_iload d_Model_chooses_97 rfl ?_
            refine aw_icmp_lt (tgt := 130) d_Model_chooses_99 (by decide) (fun hc => ?_) (fun hc => ?_)
            · rw [if_pos hc] at h
              exact aw_pick [1, 2, 3, 4, 5, 6] rfl (ih_2 _ _ _ _ _ _ _ _ h)
            · rw [if_neg hc] at h
              refine aw_iload d_Model_chooses_102 rfl ?_
              refine aw_iload d_Model_chooses_104 rfl ?_
              refine aw_icmp_ne (tgt := 123) d_Model_chooses_106 (by decide) (fun hc => ?_) (fun hc => ?_)
              · rw [if_neg hc] at h
                exact aw_pick [1, 2, 3, 6, 0] rfl (ih_1 _ _ _ _ _ _ _ _ h)
              · rw [if_pos hc] at h
                refine aw_iload d_Model_chooses_109 rfl ?_
                refine aw_i2l d_Model_chooses_111 ?_
                refine aw_iload_n d_Model_chooses_112 rfl rfl ?_
                refine aw_i2l d_Model_chooses_113 ?_
                obtain ⟨t114, e_t114, h⟩ := q_bind h
                refine aw_cS (v := (some (.int t114))) (As := [.long ((x5).toInt64), .long ((x3).toInt64)]) (rest := []) (st' := [.int t114]) d_Model_chooses_114 kS_Model_248 ⟨Nat.le_of_ble_eq_true rfl, Nat.le_of_ble_eq_true rfl, Nat.le_of_ble_eq_true rfl, Nat.le_of_ble_eq_true rfl⟩ rfl rfl (Nat.le_of_ble_eq_true rfl) rfl (mt_Model_isBetter e_t114) ?_
                refine aw_if_ne (tgt := 123) d_Model_chooses_117 (by decide) (fun hc => ?_) (fun hc => ?_)
                · rw [if_neg hc] at h
                  exact aw_pick [1, 2, 3, 6, 0] rfl (ih_1 _ _ _ _ _ _ _ _ h)
                · rw [if_pos hc] at h
                  refine aw_goto (tgt := 130) d_Model_chooses_120 (by decide) ?_
                  exact aw_pick [1, 2, 3, 4, 5, 6] rfl (ih_2 _ _ _ _ _ _ _ _ h)
        · rw [if_pos hc] at h
          refine aw_goto (tgt := 130) d_Model_chooses_58 (by decide) ?_
          exact aw_pick [0, 1, 2, 3, 4, 5] rfl (ih_2 _ _ _ _ _ _ _ _ h)
set_option maxHeartbeats 4000000 in
theorem s_Model_chooses_1 {rc : Nat → Nat → Int32 → Int32 → Int32 → Int32 → Int32 → Int32 → am_M → Option (Int32 × am_M)} {res : Int32} {M' : am_M} (ih_0 : ∀ (r0 : Nat) (x1 : Int32) (x2 : Int32) (x3 : Int32) (x4 : Int32) (x5 : Int32) (x6 : Int32) (M : am_M), rc 0 r0 x1 x2 x3 x4 x5 x6 M = some (res, M') → AW u_Model_chooses R_Model_chooses 0 0 8 [(0, .ref r0), (1, .int x1), (2, .int x2), (3, .int x3), (4, .int x4), (5, .int x5)] [] M (fun r M2 => r = .inl (some (.int res)) ∧ M2 = M')) (ih_1 : ∀ (r0 : Nat) (x1 : Int32) (x2 : Int32) (x3 : Int32) (x4 : Int32) (x5 : Int32) (x6 : Int32) (M : am_M), rc 1 r0 x1 x2 x3 x4 x5 x6 M = some (res, M') → AW u_Model_chooses R_Model_chooses 0 0 123 [(0, .ref r0), (1, .int x1), (2, .int x2), (5, .int x5), (6, .int x6)] [] M (fun r M2 => r = .inl (some (.int res)) ∧ M2 = M')) (ih_2 : ∀ (r0 : Nat) (x1 : Int32) (x2 : Int32) (x3 : Int32) (x4 : Int32) (x5 : Int32) (x6 : Int32) (M : am_M), rc 2 r0 x1 x2 x3 x4 x5 x6 M = some (res, M') → AW u_Model_chooses R_Model_chooses 0 0 130 [(0, .ref r0), (1, .int x1), (2, .int x2), (3, .int x3), (4, .int x4), (5, .int x5)] [] M (fun r M2 => r = .inl (some (.int res)) ∧ M2 = M')) : ∀ (r0 : Nat) (x1 : Int32) (x2 : Int32) (x3 : Int32) (x4 : Int32) (x5 : Int32) (x6 : Int32) (M : am_M), a_Model_chooses_1 rc r0 x1 x2 x3 x4 x5 x6 M = some (res, M') → AW u_Model_chooses R_Model_chooses 0 0 123 [(0, .ref r0), (1, .int x1), (2, .int x2), (5, .int x5), (6, .int x6)] [] M (fun r M2 => r = .inl (some (.int res)) ∧ M2 = M') := by
  intro r0 x1 x2 x3 x4 x5 x6 M h
  unfold a_Model_chooses_1 at h
  refine aw_iload d_Model_chooses_123 rfl ?_
  refine aw_istore_n (ls' := [(3, .int _), (0, .ref _), (1, .int _), (2, .int _), (5, .int _), (6, .int _)]) d_Model_chooses_125 rfl (Nat.le_of_ble_eq_true rfl) rfl ?_
  refine aw_iload d_Model_chooses_126 rfl ?_
  refine aw_istore (ls' := [(4, .int _), (3, .int _), (0, .ref _), (1, .int _), (2, .int _), (5, .int _), (6, .int _)]) d_Model_chooses_128 (Nat.le_of_ble_eq_true rfl) rfl ?_
  exact aw_pick [2, 3, 4, 1, 0, 5] rfl (ih_2 _ _ _ _ _ _ _ _ h)
set_option maxHeartbeats 4000000 in
theorem s_Model_chooses_2 {rc : Nat → Nat → Int32 → Int32 → Int32 → Int32 → Int32 → Int32 → am_M → Option (Int32 × am_M)} {res : Int32} {M' : am_M} (ih_0 : ∀ (r0 : Nat) (x1 : Int32) (x2 : Int32) (x3 : Int32) (x4 : Int32) (x5 : Int32) (x6 : Int32) (M : am_M), rc 0 r0 x1 x2 x3 x4 x5 x6 M = some (res, M') → AW u_Model_chooses R_Model_chooses 0 0 8 [(0, .ref r0), (1, .int x1), (2, .int x2), (3, .int x3), (4, .int x4), (5, .int x5)] [] M (fun r M2 => r = .inl (some (.int res)) ∧ M2 = M')) (ih_1 : ∀ (r0 : Nat) (x1 : Int32) (x2 : Int32) (x3 : Int32) (x4 : Int32) (x5 : Int32) (x6 : Int32) (M : am_M), rc 1 r0 x1 x2 x3 x4 x5 x6 M = some (res, M') → AW u_Model_chooses R_Model_chooses 0 0 123 [(0, .ref r0), (1, .int x1), (2, .int x2), (5, .int x5), (6, .int x6)] [] M (fun r M2 => r = .inl (some (.int res)) ∧ M2 = M')) (ih_2 : ∀ (r0 : Nat) (x1 : Int32) (x2 : Int32) (x3 : Int32) (x4 : Int32) (x5 : Int32) (x6 : Int32) (M : am_M), rc 2 r0 x1 x2 x3 x4 x5 x6 M = some (res, M') → AW u_Model_chooses R_Model_chooses 0 0 130 [(0, .ref r0), (1, .int x1), (2, .int x2), (3, .int x3), (4, .int x4), (5, .int x5)] [] M (fun r M2 => r = .inl (some (.int res)) ∧ M2 = M')) : ∀ (r0 : Nat) (x1 : Int32) (x2 : Int32) (x3 : Int32) (x4 : Int32) (x5 : Int32) (x6 : Int32) (M : am_M), a_Model_chooses_2 rc r0 x1 x2 x3 x4 x5 x6 M = some (res, M') → AW u_Model_chooses R_Model_chooses 0 0 130 [(0, .ref r0), (1, .int x1), (2, .int x2), (3, .int x3), (4, .int x4), (5, .int x5)] [] M (fun r M2 => r = .inl (some (.int res)) ∧ M2 = M') := by
  intro r0 x1 x2 x3 x4 x5 x6 M h
  unfold a_Model_chooses_2 at h
  refine aw_iinc (v := (x5 + (1 : Int32))) (ls' := [(5, .int _), (0, .ref _), (1, .int _), (2, .int _), (3, .int _), (4, .int _)]) d_Model_chooses_130 rfl rfl (Nat.le_of_ble_eq_true rfl) rfl ?_
  refine aw_goto (tgt := 8) d_Model_chooses_133 (by decide) ?_
  exact aw_pick [1, 2, 3, 4, 5, 0] rfl (ih_0 _ _ _ _ _ _ _ _ h)
theorem l_Model_chooses {res : Int32} {M' : am_M} : ∀ F : Nat, (∀ (r0 : Nat) (x1 : Int32) (x2 : Int32) (x3 : Int32) (x4 : Int32) (x5 : Int32) (x6 : Int32) (M : am_M), g_Model_chooses F 0 r0 x1 x2 x3 x4 x5 x6 M = some (res, M') → AW u_Model_chooses R_Model_chooses 0 0 8 [(0, .ref r0), (1, .int x1), (2, .int x2), (3, .int x3), (4, .int x4), (5, .int x5)] [] M (fun r M2 => r = .inl (some (.int res)) ∧ M2 = M')) ∧ (∀ (r0 : Nat) (x1 : Int32) (x2 : Int32) (x3 : Int32) (x4 : Int32) (x5 : Int32) (x6 : Int32) (M : am_M), g_Model_chooses F 1 r0 x1 x2 x3 x4 x5 x6 M = some (res, M') → AW u_Model_chooses R_Model_chooses 0 0 123 [(0, .ref r0), (1, .int x1), (2, .int x2), (5, .int x5), (6, .int x6)] [] M (fun r M2 => r = .inl (some (.int res)) ∧ M2 = M')) ∧ (∀ (r0 : Nat) (x1 : Int32) (x2 : Int32) (x3 : Int32) (x4 : Int32) (x5 : Int32) (x6 : Int32) (M : am_M), g_Model_chooses F 2 r0 x1 x2 x3 x4 x5 x6 M = some (res, M') → AW u_Model_chooses R_Model_chooses 0 0 130 [(0, .ref r0), (1, .int x1), (2, .int x2), (3, .int x3), (4, .int x4), (5, .int x5)] [] M (fun r M2 => r = .inl (some (.int res)) ∧ M2 = M')) := by
  intro F
  induction F with
  | zero => exact ⟨fun _ _ _ _ _ _ _ _  h => (by cases h), fun _ _ _ _ _ _ _ _  h => (by cases h), fun _ _ _ _ _ _ _ _  h => (by cases h)⟩
  | succ F ih =>
    obtain ⟨ih0, ih1, ih2⟩ := ih
    exact ⟨s_Model_chooses_0 ih0 ih1 ih2, s_Model_chooses_1 ih0 ih1 ih2, s_Model_chooses_2 ih0 ih1 ih2⟩
set_option maxHeartbeats 4000000 in
theorem mt_Model_chooses {M : am_M} {a0 : Nat} {a1 : Int32} {a2 : Int32} {res : Int32} {M' : am_M} (h : f_Model_chooses M a0 a1 a2 = some (res, M')) : AMet y_Model_chooses u_Model_chooses R_Model_chooses [.ref a0, .int a1, .int a2] M (fun r M2 => r = .inl (some (.int res)) ∧ M2 = M') := by
  refine am_met (by decide +kernel) w_Model_chooses rfl rfl (Nat.le_of_ble_eq_true rfl) ?_
  show AW u_Model_chooses R_Model_chooses 0 0 0 [(0, .ref a0), (1, .int a1), (2, .int a2)] [] M (fun r M2 => r = .inl (some (.int res)) ∧ M2 = M')
  have ih_0 := (l_Model_chooses (res := res) (M' := M') 1000000000).1
  have ih_1 := (l_Model_chooses (res := res) (M' := M') 1000000000).2.1
  have ih_2 := (l_Model_chooses (res := res) (M' := M') 1000000000).2.2
  unfold f_Model_chooses at h
  unfold e_Model_chooses at h
  generalize g_Model_chooses 1000000000 = rc at h ih_0 ih_1 ih_2
  refine aw_iconst (v := -1) d_Model_chooses_0 (by decide) ?_
  refine aw_istore_n (ls' := [(3, .int _), (0, .ref _), (1, .int _), (2, .int _)]) d_Model_chooses_1 rfl (Nat.le_of_ble_eq_true rfl) rfl ?_
  refine aw_iconst (v := 0) d_Model_chooses_2 (by decide) ?_
  refine aw_istore (ls' := [(4, .int _), (3, .int _), (0, .ref _), (1, .int _), (2, .int _)]) d_Model_chooses_3 (Nat.le_of_ble_eq_true rfl) rfl ?_
  refine aw_iconst (v := 0) d_Model_chooses_5 (by decide) ?_
  refine aw_istore (ls' := [(5, .int _), (4, .int _), (3, .int _), (0, .ref _), (1, .int _), (2, .int _)]) d_Model_chooses_6 (Nat.le_of_ble_eq_true rfl) rfl ?_
  exact aw_pick [3, 4, 5, 2, 1, 0] rfl (ih_0 _ _ _ _ _ _ _ _ h)
