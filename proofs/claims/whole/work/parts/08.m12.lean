-- Model_mayGet Model_tables Model_award
def y_Model_mayGet : MethodName := ⟨"CrewOfficeModel", "mayGet", "(II)Z"⟩
def u_Model_mayGet : am_U := ("CrewOfficeModel", "mayGet", prog_12_method_44_code, 10, (some .boolean), [])
def R_Model_mayGet : Room := { frames := 6, cells := 0, slots := 0, locals := 138 }
theorem d_Model_mayGet_0 : decode u_Model_mayGet.2.2.1 0 = .ok (.aload_n 0, 1) := by decide +kernel
theorem d_Model_mayGet_1 : decode u_Model_mayGet.2.2.1 1 = .ok (.getfield 57, 3) := by decide +kernel
theorem d_Model_mayGet_4 : decode u_Model_mayGet.2.2.1 4 = .ok (.iload_n 1, 1) := by decide +kernel
theorem d_Model_mayGet_5 : decode u_Model_mayGet.2.2.1 5 = .ok (.iaload, 1) := by decide +kernel
theorem d_Model_mayGet_6 : decode u_Model_mayGet.2.2.1 6 = .ok (.istore_n 3, 1) := by decide +kernel
theorem d_Model_mayGet_7 : decode u_Model_mayGet.2.2.1 7 = .ok (.iconst 0, 1) := by decide +kernel
theorem d_Model_mayGet_8 : decode u_Model_mayGet.2.2.1 8 = .ok (.istore 4, 2) := by decide +kernel
theorem d_Model_mayGet_10 : decode u_Model_mayGet.2.2.1 10 = .ok (.iload 4, 2) := by decide +kernel
theorem d_Model_mayGet_12 : decode u_Model_mayGet.2.2.1 12 = .ok (.aload_n 0, 1) := by decide +kernel
theorem d_Model_mayGet_13 : decode u_Model_mayGet.2.2.1 13 = .ok (.getfield 255, 3) := by decide +kernel
theorem d_Model_mayGet_16 : decode u_Model_mayGet.2.2.1 16 = .ok (.if_icmp .ge 210, 3) := by decide +kernel
theorem d_Model_mayGet_19 : decode u_Model_mayGet.2.2.1 19 = .ok (.iload_n 2, 1) := by decide +kernel
theorem d_Model_mayGet_20 : decode u_Model_mayGet.2.2.1 20 = .ok (.iload 4, 2) := by decide +kernel
theorem d_Model_mayGet_22 : decode u_Model_mayGet.2.2.1 22 = .ok (.ishr, 1) := by decide +kernel
theorem d_Model_mayGet_23 : decode u_Model_mayGet.2.2.1 23 = .ok (.iconst 1, 1) := by decide +kernel
theorem d_Model_mayGet_24 : decode u_Model_mayGet.2.2.1 24 = .ok (.iand, 1) := by decide +kernel
theorem d_Model_mayGet_25 : decode u_Model_mayGet.2.2.1 25 = .ok (.ifCond .ne 6, 3) := by decide +kernel
theorem d_Model_mayGet_28 : decode u_Model_mayGet.2.2.1 28 = .ok (.goto 192, 3) := by decide +kernel
theorem d_Model_mayGet_31 : decode u_Model_mayGet.2.2.1 31 = .ok (.aload_n 0, 1) := by decide +kernel
theorem d_Model_mayGet_32 : decode u_Model_mayGet.2.2.1 32 = .ok (.getfield 143, 3) := by decide +kernel
theorem d_Model_mayGet_35 : decode u_Model_mayGet.2.2.1 35 = .ok (.iload 4, 2) := by decide +kernel
theorem d_Model_mayGet_37 : decode u_Model_mayGet.2.2.1 37 = .ok (.iaload, 1) := by decide +kernel
theorem d_Model_mayGet_38 : decode u_Model_mayGet.2.2.1 38 = .ok (.istore 5, 2) := by decide +kernel
theorem d_Model_mayGet_40 : decode u_Model_mayGet.2.2.1 40 = .ok (.aload_n 0, 1) := by decide +kernel
theorem d_Model_mayGet_41 : decode u_Model_mayGet.2.2.1 41 = .ok (.aload_n 0, 1) := by decide +kernel
theorem d_Model_mayGet_42 : decode u_Model_mayGet.2.2.1 42 = .ok (.getfield 109, 3) := by decide +kernel
theorem d_Model_mayGet_45 : decode u_Model_mayGet.2.2.1 45 = .ok (.iload 5, 2) := by decide +kernel
theorem d_Model_mayGet_47 : decode u_Model_mayGet.2.2.1 47 = .ok (.iaload, 1) := by decide +kernel
theorem d_Model_mayGet_48 : decode u_Model_mayGet.2.2.1 48 = .ok (.putfield 203, 3) := by decide +kernel
theorem d_Model_mayGet_51 : decode u_Model_mayGet.2.2.1 51 = .ok (.iconst 0, 1) := by decide +kernel
theorem d_Model_mayGet_52 : decode u_Model_mayGet.2.2.1 52 = .ok (.istore 6, 2) := by decide +kernel
theorem d_Model_mayGet_54 : decode u_Model_mayGet.2.2.1 54 = .ok (.iload 6, 2) := by decide +kernel
theorem d_Model_mayGet_56 : decode u_Model_mayGet.2.2.1 56 = .ok (.aload_n 0, 1) := by decide +kernel
theorem d_Model_mayGet_57 : decode u_Model_mayGet.2.2.1 57 = .ok (.getfield 203, 3) := by decide +kernel
theorem d_Model_mayGet_60 : decode u_Model_mayGet.2.2.1 60 = .ok (.if_icmp .ge 29, 3) := by decide +kernel
theorem d_Model_mayGet_63 : decode u_Model_mayGet.2.2.1 63 = .ok (.aload_n 0, 1) := by decide +kernel
theorem d_Model_mayGet_64 : decode u_Model_mayGet.2.2.1 64 = .ok (.getfield 87, 3) := by decide +kernel
theorem d_Model_mayGet_67 : decode u_Model_mayGet.2.2.1 67 = .ok (.iload 6, 2) := by decide +kernel
theorem d_Model_mayGet_69 : decode u_Model_mayGet.2.2.1 69 = .ok (.aload_n 0, 1) := by decide +kernel
theorem d_Model_mayGet_70 : decode u_Model_mayGet.2.2.1 70 = .ok (.getfield 106, 3) := by decide +kernel
theorem d_Model_mayGet_73 : decode u_Model_mayGet.2.2.1 73 = .ok (.bipush 8, 2) := by decide +kernel
theorem d_Model_mayGet_75 : decode u_Model_mayGet.2.2.1 75 = .ok (.iload 5, 2) := by decide +kernel
theorem d_Model_mayGet_77 : decode u_Model_mayGet.2.2.1 77 = .ok (.imul, 1) := by decide +kernel
theorem d_Model_mayGet_78 : decode u_Model_mayGet.2.2.1 78 = .ok (.iload 6, 2) := by decide +kernel
theorem d_Model_mayGet_80 : decode u_Model_mayGet.2.2.1 80 = .ok (.iadd, 1) := by decide +kernel
theorem d_Model_mayGet_81 : decode u_Model_mayGet.2.2.1 81 = .ok (.iaload, 1) := by decide +kernel
theorem d_Model_mayGet_82 : decode u_Model_mayGet.2.2.1 82 = .ok (.iastore, 1) := by decide +kernel
theorem d_Model_mayGet_83 : decode u_Model_mayGet.2.2.1 83 = .ok (.iinc 6 1, 3) := by decide +kernel
theorem d_Model_mayGet_86 : decode u_Model_mayGet.2.2.1 86 = .ok (.goto (-32), 3) := by decide +kernel
theorem d_Model_mayGet_89 : decode u_Model_mayGet.2.2.1 89 = .ok (.aload_n 0, 1) := by decide +kernel
theorem d_Model_mayGet_90 : decode u_Model_mayGet.2.2.1 90 = .ok (.iload_n 1, 1) := by decide +kernel
theorem d_Model_mayGet_91 : decode u_Model_mayGet.2.2.1 91 = .ok (.invokevirtual 229, 3) := by decide +kernel
theorem d_Model_mayGet_94 : decode u_Model_mayGet.2.2.1 94 = .ok (.ifCond .le 5, 3) := by decide +kernel
theorem d_Model_mayGet_97 : decode u_Model_mayGet.2.2.1 97 = .ok (.iconst 0, 1) := by decide +kernel
theorem d_Model_mayGet_98 : decode u_Model_mayGet.2.2.1 98 = .ok (.ireturn, 1) := by decide +kernel
theorem d_Model_mayGet_99 : decode u_Model_mayGet.2.2.1 99 = .ok (.iload_n 3, 1) := by decide +kernel
theorem d_Model_mayGet_100 : decode u_Model_mayGet.2.2.1 100 = .ok (.aload_n 0, 1) := by decide +kernel
theorem d_Model_mayGet_101 : decode u_Model_mayGet.2.2.1 101 = .ok (.getfield 118, 3) := by decide +kernel
theorem d_Model_mayGet_104 : decode u_Model_mayGet.2.2.1 104 = .ok (.iload 5, 2) := by decide +kernel
theorem d_Model_mayGet_106 : decode u_Model_mayGet.2.2.1 106 = .ok (.iaload, 1) := by decide +kernel
theorem d_Model_mayGet_107 : decode u_Model_mayGet.2.2.1 107 = .ok (.iadd, 1) := by decide +kernel
theorem d_Model_mayGet_108 : decode u_Model_mayGet.2.2.1 108 = .ok (.istore_n 3, 1) := by decide +kernel
theorem d_Model_mayGet_109 : decode u_Model_mayGet.2.2.1 109 = .ok (.iconst 0, 1) := by decide +kernel
theorem d_Model_mayGet_110 : decode u_Model_mayGet.2.2.1 110 = .ok (.istore 6, 2) := by decide +kernel
theorem d_Model_mayGet_112 : decode u_Model_mayGet.2.2.1 112 = .ok (.iload 6, 2) := by decide +kernel
theorem d_Model_mayGet_114 : decode u_Model_mayGet.2.2.1 114 = .ok (.iload 4, 2) := by decide +kernel
theorem d_Model_mayGet_116 : decode u_Model_mayGet.2.2.1 116 = .ok (.if_icmp .ge 104, 3) := by decide +kernel
theorem d_Model_mayGet_119 : decode u_Model_mayGet.2.2.1 119 = .ok (.iload_n 2, 1) := by decide +kernel
theorem d_Model_mayGet_120 : decode u_Model_mayGet.2.2.1 120 = .ok (.iload 6, 2) := by decide +kernel
theorem d_Model_mayGet_122 : decode u_Model_mayGet.2.2.1 122 = .ok (.ishr, 1) := by decide +kernel
theorem d_Model_mayGet_123 : decode u_Model_mayGet.2.2.1 123 = .ok (.iconst 1, 1) := by decide +kernel
theorem d_Model_mayGet_124 : decode u_Model_mayGet.2.2.1 124 = .ok (.iand, 1) := by decide +kernel
theorem d_Model_mayGet_125 : decode u_Model_mayGet.2.2.1 125 = .ok (.ifCond .ne 6, 3) := by decide +kernel
theorem d_Model_mayGet_128 : decode u_Model_mayGet.2.2.1 128 = .ok (.goto 86, 3) := by decide +kernel
theorem d_Model_mayGet_131 : decode u_Model_mayGet.2.2.1 131 = .ok (.aload_n 0, 1) := by decide +kernel
theorem d_Model_mayGet_132 : decode u_Model_mayGet.2.2.1 132 = .ok (.getfield 143, 3) := by decide +kernel
theorem d_Model_mayGet_135 : decode u_Model_mayGet.2.2.1 135 = .ok (.iload 6, 2) := by decide +kernel
theorem d_Model_mayGet_137 : decode u_Model_mayGet.2.2.1 137 = .ok (.iaload, 1) := by decide +kernel
theorem d_Model_mayGet_138 : decode u_Model_mayGet.2.2.1 138 = .ok (.istore 7, 2) := by decide +kernel
theorem d_Model_mayGet_140 : decode u_Model_mayGet.2.2.1 140 = .ok (.aload_n 0, 1) := by decide +kernel
theorem d_Model_mayGet_141 : decode u_Model_mayGet.2.2.1 141 = .ok (.getfield 112, 3) := by decide +kernel
theorem d_Model_mayGet_144 : decode u_Model_mayGet.2.2.1 144 = .ok (.iload 5, 2) := by decide +kernel
theorem d_Model_mayGet_146 : decode u_Model_mayGet.2.2.1 146 = .ok (.iaload, 1) := by decide +kernel
theorem d_Model_mayGet_147 : decode u_Model_mayGet.2.2.1 147 = .ok (.aload_n 0, 1) := by decide +kernel
theorem d_Model_mayGet_148 : decode u_Model_mayGet.2.2.1 148 = .ok (.getfield 115, 3) := by decide +kernel
theorem d_Model_mayGet_151 : decode u_Model_mayGet.2.2.1 151 = .ok (.iload 7, 2) := by decide +kernel
theorem d_Model_mayGet_153 : decode u_Model_mayGet.2.2.1 153 = .ok (.iaload, 1) := by decide +kernel
theorem d_Model_mayGet_154 : decode u_Model_mayGet.2.2.1 154 = .ok (.aload_n 0, 1) := by decide +kernel
theorem d_Model_mayGet_155 : decode u_Model_mayGet.2.2.1 155 = .ok (.getfield 78, 3) := by decide +kernel
theorem d_Model_mayGet_158 : decode u_Model_mayGet.2.2.1 158 = .ok (.iconst 4, 1) := by decide +kernel
theorem d_Model_mayGet_159 : decode u_Model_mayGet.2.2.1 159 = .ok (.iaload, 1) := by decide +kernel
theorem d_Model_mayGet_160 : decode u_Model_mayGet.2.2.1 160 = .ok (.iadd, 1) := by decide +kernel
theorem d_Model_mayGet_161 : decode u_Model_mayGet.2.2.1 161 = .ok (.if_icmp .lt 7, 3) := by decide +kernel
theorem d_Model_mayGet_164 : decode u_Model_mayGet.2.2.1 164 = .ok (.iconst 1, 1) := by decide +kernel
theorem d_Model_mayGet_165 : decode u_Model_mayGet.2.2.1 165 = .ok (.goto 4, 3) := by decide +kernel
theorem d_Model_mayGet_168 : decode u_Model_mayGet.2.2.1 168 = .ok (.iconst 0, 1) := by decide +kernel
theorem d_Model_mayGet_169 : decode u_Model_mayGet.2.2.1 169 = .ok (.istore 8, 2) := by decide +kernel
theorem d_Model_mayGet_171 : decode u_Model_mayGet.2.2.1 171 = .ok (.aload_n 0, 1) := by decide +kernel
theorem d_Model_mayGet_172 : decode u_Model_mayGet.2.2.1 172 = .ok (.getfield 112, 3) := by decide +kernel
theorem d_Model_mayGet_175 : decode u_Model_mayGet.2.2.1 175 = .ok (.iload 7, 2) := by decide +kernel
theorem d_Model_mayGet_177 : decode u_Model_mayGet.2.2.1 177 = .ok (.iaload, 1) := by decide +kernel
theorem d_Model_mayGet_178 : decode u_Model_mayGet.2.2.1 178 = .ok (.aload_n 0, 1) := by decide +kernel
theorem d_Model_mayGet_179 : decode u_Model_mayGet.2.2.1 179 = .ok (.getfield 115, 3) := by decide +kernel
theorem d_Model_mayGet_182 : decode u_Model_mayGet.2.2.1 182 = .ok (.iload 5, 2) := by decide +kernel
theorem d_Model_mayGet_184 : decode u_Model_mayGet.2.2.1 184 = .ok (.iaload, 1) := by decide +kernel
theorem d_Model_mayGet_185 : decode u_Model_mayGet.2.2.1 185 = .ok (.aload_n 0, 1) := by decide +kernel
theorem d_Model_mayGet_186 : decode u_Model_mayGet.2.2.1 186 = .ok (.getfield 78, 3) := by decide +kernel
theorem d_Model_mayGet_189 : decode u_Model_mayGet.2.2.1 189 = .ok (.iconst 4, 1) := by decide +kernel
theorem d_Model_mayGet_190 : decode u_Model_mayGet.2.2.1 190 = .ok (.iaload, 1) := by decide +kernel
theorem d_Model_mayGet_191 : decode u_Model_mayGet.2.2.1 191 = .ok (.iadd, 1) := by decide +kernel
theorem d_Model_mayGet_192 : decode u_Model_mayGet.2.2.1 192 = .ok (.if_icmp .lt 7, 3) := by decide +kernel
theorem d_Model_mayGet_195 : decode u_Model_mayGet.2.2.1 195 = .ok (.iconst 1, 1) := by decide +kernel
theorem d_Model_mayGet_196 : decode u_Model_mayGet.2.2.1 196 = .ok (.goto 4, 3) := by decide +kernel
theorem d_Model_mayGet_199 : decode u_Model_mayGet.2.2.1 199 = .ok (.iconst 0, 1) := by decide +kernel
theorem d_Model_mayGet_200 : decode u_Model_mayGet.2.2.1 200 = .ok (.istore 9, 2) := by decide +kernel
theorem d_Model_mayGet_202 : decode u_Model_mayGet.2.2.1 202 = .ok (.iload 8, 2) := by decide +kernel
theorem d_Model_mayGet_204 : decode u_Model_mayGet.2.2.1 204 = .ok (.ifCond .ne 10, 3) := by decide +kernel
theorem d_Model_mayGet_207 : decode u_Model_mayGet.2.2.1 207 = .ok (.iload 9, 2) := by decide +kernel
theorem d_Model_mayGet_209 : decode u_Model_mayGet.2.2.1 209 = .ok (.ifCond .ne 5, 3) := by decide +kernel
theorem d_Model_mayGet_212 : decode u_Model_mayGet.2.2.1 212 = .ok (.iconst 0, 1) := by decide +kernel
theorem d_Model_mayGet_213 : decode u_Model_mayGet.2.2.1 213 = .ok (.ireturn, 1) := by decide +kernel
theorem d_Model_mayGet_214 : decode u_Model_mayGet.2.2.1 214 = .ok (.iinc 6 1, 3) := by decide +kernel
theorem d_Model_mayGet_217 : decode u_Model_mayGet.2.2.1 217 = .ok (.goto (-105), 3) := by decide +kernel
theorem d_Model_mayGet_220 : decode u_Model_mayGet.2.2.1 220 = .ok (.iinc 4 1, 3) := by decide +kernel
theorem d_Model_mayGet_223 : decode u_Model_mayGet.2.2.1 223 = .ok (.goto (-213), 3) := by decide +kernel
theorem d_Model_mayGet_226 : decode u_Model_mayGet.2.2.1 226 = .ok (.iload_n 2, 1) := by decide +kernel
theorem d_Model_mayGet_227 : decode u_Model_mayGet.2.2.1 227 = .ok (.ifCond .eq 14, 3) := by decide +kernel
theorem d_Model_mayGet_230 : decode u_Model_mayGet.2.2.1 230 = .ok (.iload_n 3, 1) := by decide +kernel
theorem d_Model_mayGet_231 : decode u_Model_mayGet.2.2.1 231 = .ok (.aload_n 0, 1) := by decide +kernel
theorem d_Model_mayGet_232 : decode u_Model_mayGet.2.2.1 232 = .ok (.getfield 78, 3) := by decide +kernel
theorem d_Model_mayGet_235 : decode u_Model_mayGet.2.2.1 235 = .ok (.bipush 10, 2) := by decide +kernel
theorem d_Model_mayGet_237 : decode u_Model_mayGet.2.2.1 237 = .ok (.iaload, 1) := by decide +kernel
theorem d_Model_mayGet_238 : decode u_Model_mayGet.2.2.1 238 = .ok (.if_icmp .gt 7, 3) := by decide +kernel
theorem d_Model_mayGet_241 : decode u_Model_mayGet.2.2.1 241 = .ok (.iconst 1, 1) := by decide +kernel
theorem d_Model_mayGet_242 : decode u_Model_mayGet.2.2.1 242 = .ok (.goto 4, 3) := by decide +kernel
theorem d_Model_mayGet_245 : decode u_Model_mayGet.2.2.1 245 = .ok (.iconst 0, 1) := by decide +kernel
theorem d_Model_mayGet_246 : decode u_Model_mayGet.2.2.1 246 = .ok (.ireturn, 1) := by decide +kernel
theorem w_Model_mayGet : am_code y_Model_mayGet u_Model_mayGet ∈ am_ws := am_mem (List.mem_of_getElem? (i := 1343) (by decide +kernel)) rfl
def a_Model_mayGet_0 (rc : Nat → Nat → Int32 → Int32 → Int32 → Int32 → Int32 → Int32 → Int32 → Int32 → Int32 → am_M → Option (Int32 × am_M)) (r0 : Nat) (x1 : Int32) (x2 : Int32) (x3 : Int32) (x4 : Int32) (x5 : Int32) (x6 : Int32) (x7 : Int32) (x8 : Int32) (s0 : Int32) (M : am_M) : Option (Int32 × am_M) := (q_gti M r0 10 49).bind (fun t13 => if t13 ≤ x4 then (if x2 = 0 then (rc 7 0 0 0 0 0 0 0 0 0 0 M) else ((q_gtr M r0 10 23).bind (fun t232 => (q_ldi M t232 (10 : Int32)).bind (fun t237 => if t237 < x3 then (some ((0 : Int32), M)) else (rc 7 0 0 0 0 0 0 0 0 0 0 M))))) else (if ((x2 >>> (x4 &&& 31)) &&& (1 : Int32)) = 0 then (rc 6 r0 x1 x2 x3 x4 0 0 0 0 0 M) else ((q_gtr M r0 10 48).bind (fun t32 => (q_ldi M t32 x4).bind (fun t37 => (q_gtr M r0 10 36).bind (fun t42 => (q_ldi M t42 t37).bind (fun t47 => (q_pti M r0 10 28 t47).bind (fun M48 => rc 1 r0 x1 x2 x3 x4 t37 (0 : Int32) 0 0 0 M48))))))))
def a_Model_mayGet_1 (rc : Nat → Nat → Int32 → Int32 → Int32 → Int32 → Int32 → Int32 → Int32 → Int32 → Int32 → am_M → Option (Int32 × am_M)) (r0 : Nat) (x1 : Int32) (x2 : Int32) (x3 : Int32) (x4 : Int32) (x5 : Int32) (x6 : Int32) (x7 : Int32) (x8 : Int32) (s0 : Int32) (M : am_M) : Option (Int32 × am_M) := (q_gti M r0 10 28).bind (fun t57 => if t57 ≤ x6 then ((q_ob M r0 10).bind (fun o91 => (f_Model_judge M r0 x1).bind (fun p91 => if p91.1 ≤ 0 then ((q_gtr p91.2 r0 10 39).bind (fun t101 => (q_ldi p91.2 t101 x5).bind (fun t106 => rc 2 r0 x1 x2 (x3 + t106) x4 x5 (0 : Int32) 0 0 0 p91.2))) else (some ((0 : Int32), p91.2))))) else ((q_gtr M r0 10 27).bind (fun t64 => (q_gtr M r0 10 35).bind (fun t70 => (q_ldi M t70 (((8 : Int32) * x5) + x6)).bind (fun t81 => (q_sti M t64 x6 t81).bind (fun M82 => rc 1 r0 x1 x2 x3 x4 x5 (x6 + (1 : Int32)) 0 0 0 M82))))))
def a_Model_mayGet_2 (rc : Nat → Nat → Int32 → Int32 → Int32 → Int32 → Int32 → Int32 → Int32 → Int32 → Int32 → am_M → Option (Int32 × am_M)) (r0 : Nat) (x1 : Int32) (x2 : Int32) (x3 : Int32) (x4 : Int32) (x5 : Int32) (x6 : Int32) (x7 : Int32) (x8 : Int32) (s0 : Int32) (M : am_M) : Option (Int32 × am_M) := if x4 ≤ x6 then (rc 6 r0 x1 x2 x3 x4 0 0 0 0 0 M) else (if ((x2 >>> (x6 &&& 31)) &&& (1 : Int32)) = 0 then (rc 5 r0 x1 x2 x3 x4 x5 x6 0 0 0 M) else ((q_gtr M r0 10 48).bind (fun t132 => (q_ldi M t132 x6).bind (fun t137 => (q_gtr M r0 10 37).bind (fun t141 => (q_ldi M t141 x5).bind (fun t146 => (q_gtr M r0 10 38).bind (fun t148 => (q_ldi M t148 t137).bind (fun t153 => (q_gtr M r0 10 23).bind (fun t155 => (q_ldi M t155 (4 : Int32)).bind (fun t159 => if t146 < (t153 + t159) then (rc 3 r0 x1 x2 x3 x4 x5 x6 t137 0 (0 : Int32) M) else (rc 3 r0 x1 x2 x3 x4 x5 x6 t137 0 (1 : Int32) M)))))))))))
def a_Model_mayGet_3 (rc : Nat → Nat → Int32 → Int32 → Int32 → Int32 → Int32 → Int32 → Int32 → Int32 → Int32 → am_M → Option (Int32 × am_M)) (r0 : Nat) (x1 : Int32) (x2 : Int32) (x3 : Int32) (x4 : Int32) (x5 : Int32) (x6 : Int32) (x7 : Int32) (x8 : Int32) (s0 : Int32) (M : am_M) : Option (Int32 × am_M) := (q_gtr M r0 10 37).bind (fun t172 => (q_ldi M t172 x7).bind (fun t177 => (q_gtr M r0 10 38).bind (fun t179 => (q_ldi M t179 x5).bind (fun t184 => (q_gtr M r0 10 23).bind (fun t186 => (q_ldi M t186 (4 : Int32)).bind (fun t190 => if t177 < (t184 + t190) then (rc 4 r0 x1 x2 x3 x4 x5 x6 0 s0 (0 : Int32) M) else (rc 4 r0 x1 x2 x3 x4 x5 x6 0 s0 (1 : Int32) M)))))))
def a_Model_mayGet_4 (rc : Nat → Nat → Int32 → Int32 → Int32 → Int32 → Int32 → Int32 → Int32 → Int32 → Int32 → am_M → Option (Int32 × am_M)) (r0 : Nat) (x1 : Int32) (x2 : Int32) (x3 : Int32) (x4 : Int32) (x5 : Int32) (x6 : Int32) (x7 : Int32) (x8 : Int32) (s0 : Int32) (M : am_M) : Option (Int32 × am_M) := if x8 = 0 then (if s0 = 0 then (some ((0 : Int32), M)) else (rc 5 r0 x1 x2 x3 x4 x5 x6 0 0 0 M)) else (rc 5 r0 x1 x2 x3 x4 x5 x6 0 0 0 M)
def a_Model_mayGet_5 (rc : Nat → Nat → Int32 → Int32 → Int32 → Int32 → Int32 → Int32 → Int32 → Int32 → Int32 → am_M → Option (Int32 × am_M)) (r0 : Nat) (x1 : Int32) (x2 : Int32) (x3 : Int32) (x4 : Int32) (x5 : Int32) (x6 : Int32) (x7 : Int32) (x8 : Int32) (s0 : Int32) (M : am_M) : Option (Int32 × am_M) := rc 2 r0 x1 x2 x3 x4 x5 (x6 + (1 : Int32)) 0 0 0 M
def a_Model_mayGet_6 (rc : Nat → Nat → Int32 → Int32 → Int32 → Int32 → Int32 → Int32 → Int32 → Int32 → Int32 → am_M → Option (Int32 × am_M)) (r0 : Nat) (x1 : Int32) (x2 : Int32) (x3 : Int32) (x4 : Int32) (x5 : Int32) (x6 : Int32) (x7 : Int32) (x8 : Int32) (s0 : Int32) (M : am_M) : Option (Int32 × am_M) := rc 0 r0 x1 x2 x3 (x4 + (1 : Int32)) 0 0 0 0 0 M
def a_Model_mayGet_7 (rc : Nat → Nat → Int32 → Int32 → Int32 → Int32 → Int32 → Int32 → Int32 → Int32 → Int32 → am_M → Option (Int32 × am_M)) (r0 : Nat) (x1 : Int32) (x2 : Int32) (x3 : Int32) (x4 : Int32) (x5 : Int32) (x6 : Int32) (x7 : Int32) (x8 : Int32) (s0 : Int32) (M : am_M) : Option (Int32 × am_M) := some ((1 : Int32), M)
def g_Model_mayGet : Nat → Nat → Nat → Int32 → Int32 → Int32 → Int32 → Int32 → Int32 → Int32 → Int32 → Int32 → am_M → Option (Int32 × am_M)
  | 0, _, _, _, _, _, _, _, _, _, _, _, _ => none
  | F + 1, 0, r0, x1, x2, x3, x4, x5, x6, x7, x8, s0, M => a_Model_mayGet_0 (g_Model_mayGet F) r0 x1 x2 x3 x4 x5 x6 x7 x8 s0 M
  | F + 1, 1, r0, x1, x2, x3, x4, x5, x6, x7, x8, s0, M => a_Model_mayGet_1 (g_Model_mayGet F) r0 x1 x2 x3 x4 x5 x6 x7 x8 s0 M
  | F + 1, 2, r0, x1, x2, x3, x4, x5, x6, x7, x8, s0, M => a_Model_mayGet_2 (g_Model_mayGet F) r0 x1 x2 x3 x4 x5 x6 x7 x8 s0 M
  | F + 1, 3, r0, x1, x2, x3, x4, x5, x6, x7, x8, s0, M => a_Model_mayGet_3 (g_Model_mayGet F) r0 x1 x2 x3 x4 x5 x6 x7 x8 s0 M
  | F + 1, 4, r0, x1, x2, x3, x4, x5, x6, x7, x8, s0, M => a_Model_mayGet_4 (g_Model_mayGet F) r0 x1 x2 x3 x4 x5 x6 x7 x8 s0 M
  | F + 1, 5, r0, x1, x2, x3, x4, x5, x6, x7, x8, s0, M => a_Model_mayGet_5 (g_Model_mayGet F) r0 x1 x2 x3 x4 x5 x6 x7 x8 s0 M
  | F + 1, 6, r0, x1, x2, x3, x4, x5, x6, x7, x8, s0, M => a_Model_mayGet_6 (g_Model_mayGet F) r0 x1 x2 x3 x4 x5 x6 x7 x8 s0 M
  | F + 1, 7, r0, x1, x2, x3, x4, x5, x6, x7, x8, s0, M => a_Model_mayGet_7 (g_Model_mayGet F) r0 x1 x2 x3 x4 x5 x6 x7 x8 s0 M
  | _ + 1, _ + 8, _, _, _, _, _, _, _, _, _, _, _ => none
def e_Model_mayGet (rc : Nat → Nat → Int32 → Int32 → Int32 → Int32 → Int32 → Int32 → Int32 → Int32 → Int32 → am_M → Option (Int32 × am_M)) (M : am_M) (a0 : Nat) (a1 : Int32) (a2 : Int32) : Option (Int32 × am_M) := (q_gtr M a0 10 16).bind (fun t1 => (q_ldi M t1 a1).bind (fun t5 => rc 0 a0 a1 a2 t5 (0 : Int32) 0 0 0 0 0 M))
def f_Model_mayGet (M : am_M) (a0 : Nat) (a1 : Int32) (a2 : Int32) : Option (Int32 × am_M) := e_Model_mayGet (g_Model_mayGet 1000000000) M a0 a1 a2
set_option maxHeartbeats 4000000 in
theorem s_Model_mayGet_0 {rc : Nat → Nat → Int32 → Int32 → Int32 → Int32 → Int32 → Int32 → Int32 → Int32 → Int32 → am_M → Option (Int32 × am_M)} {res : Int32} {M' : am_M} (ih_0 : ∀ (r0 : Nat) (x1 : Int32) (x2 : Int32) (x3 : Int32) (x4 : Int32) (x5 : Int32) (x6 : Int32) (x7 : Int32) (x8 : Int32) (s0 : Int32) (M : am_M), rc 0 r0 x1 x2 x3 x4 x5 x6 x7 x8 s0 M = some (res, M') → AW u_Model_mayGet R_Model_mayGet 0 0 10 [(0, .ref r0), (1, .int x1), (2, .int x2), (3, .int x3), (4, .int x4)] [] M (fun r M2 => r = .inl (some (.int res)) ∧ M2 = M')) (ih_1 : ∀ (r0 : Nat) (x1 : Int32) (x2 : Int32) (x3 : Int32) (x4 : Int32) (x5 : Int32) (x6 : Int32) (x7 : Int32) (x8 : Int32) (s0 : Int32) (M : am_M), rc 1 r0 x1 x2 x3 x4 x5 x6 x7 x8 s0 M = some (res, M') → AW u_Model_mayGet R_Model_mayGet 0 0 54 [(0, .ref r0), (1, .int x1), (2, .int x2), (3, .int x3), (4, .int x4), (5, .int x5), (6, .int x6)] [] M (fun r M2 => r = .inl (some (.int res)) ∧ M2 = M')) (ih_2 : ∀ (r0 : Nat) (x1 : Int32) (x2 : Int32) (x3 : Int32) (x4 : Int32) (x5 : Int32) (x6 : Int32) (x7 : Int32) (x8 : Int32) (s0 : Int32) (M : am_M), rc 2 r0 x1 x2 x3 x4 x5 x6 x7 x8 s0 M = some (res, M') → AW u_Model_mayGet R_Model_mayGet 0 0 112 [(0, .ref r0), (1, .int x1), (2, .int x2), (3, .int x3), (4, .int x4), (5, .int x5), (6, .int x6)] [] M (fun r M2 => r = .inl (some (.int res)) ∧ M2 = M')) (ih_3 : ∀ (r0 : Nat) (x1 : Int32) (x2 : Int32) (x3 : Int32) (x4 : Int32) (x5 : Int32) (x6 : Int32) (x7 : Int32) (x8 : Int32) (s0 : Int32) (M : am_M), rc 3 r0 x1 x2 x3 x4 x5 x6 x7 x8 s0 M = some (res, M') → AW u_Model_mayGet R_Model_mayGet 0 0 169 [(0, .ref r0), (1, .int x1), (2, .int x2), (3, .int x3), (4, .int x4), (5, .int x5), (6, .int x6), (7, .int x7)] [.int s0] M (fun r M2 => r = .inl (some (.int res)) ∧ M2 = M')) (ih_4 : ∀ (r0 : Nat) (x1 : Int32) (x2 : Int32) (x3 : Int32) (x4 : Int32) (x5 : Int32) (x6 : Int32) (x7 : Int32) (x8 : Int32) (s0 : Int32) (M : am_M), rc 4 r0 x1 x2 x3 x4 x5 x6 x7 x8 s0 M = some (res, M') → AW u_Model_mayGet R_Model_mayGet 0 0 200 [(0, .ref r0), (1, .int x1), (2, .int x2), (3, .int x3), (4, .int x4), (5, .int x5), (6, .int x6), (8, .int x8)] [.int s0] M (fun r M2 => r = .inl (some (.int res)) ∧ M2 = M')) (ih_5 : ∀ (r0 : Nat) (x1 : Int32) (x2 : Int32) (x3 : Int32) (x4 : Int32) (x5 : Int32) (x6 : Int32) (x7 : Int32) (x8 : Int32) (s0 : Int32) (M : am_M), rc 5 r0 x1 x2 x3 x4 x5 x6 x7 x8 s0 M = some (res, M') → AW u_Model_mayGet R_Model_mayGet 0 0 214 [(0, .ref r0), (1, .int x1), (2, .int x2), (3, .int x3), (4, .int x4), (5, .int x5), (6, .int x6)] [] M (fun r M2 => r = .inl (some (.int res)) ∧ M2 = M')) (ih_6 : ∀ (r0 : Nat) (x1 : Int32) (x2 : Int32) (x3 : Int32) (x4 : Int32) (x5 : Int32) (x6 : Int32) (x7 : Int32) (x8 : Int32) (s0 : Int32) (M : am_M), rc 6 r0 x1 x2 x3 x4 x5 x6 x7 x8 s0 M = some (res, M') → AW u_Model_mayGet R_Model_mayGet 0 0 220 [(0, .ref r0), (1, .int x1), (2, .int x2), (3, .int x3), (4, .int x4)] [] M (fun r M2 => r = .inl (some (.int res)) ∧ M2 = M')) (ih_7 : ∀ (r0 : Nat) (x1 : Int32) (x2 : Int32) (x3 : Int32) (x4 : Int32) (x5 : Int32) (x6 : Int32) (x7 : Int32) (x8 : Int32) (s0 : Int32) (M : am_M), rc 7 r0 x1 x2 x3 x4 x5 x6 x7 x8 s0 M = some (res, M') → AW u_Model_mayGet R_Model_mayGet 0 0 241 [] [] M (fun r M2 => r = .inl (some (.int res)) ∧ M2 = M')) : ∀ (r0 : Nat) (x1 : Int32) (x2 : Int32) (x3 : Int32) (x4 : Int32) (x5 : Int32) (x6 : Int32) (x7 : Int32) (x8 : Int32) (s0 : Int32) (M : am_M), a_Model_mayGet_0 rc r0 x1 x2 x3 x4 x5 x6 x7 x8 s0 M = some (res, M') → AW u_Model_mayGet R_Model_mayGet 0 0 10 [(0, .ref r0), (1, .int x1), (2, .int x2), (3, .int x3), (4, .int x4)] [] M (fun r M2 => r = .inl (some (.int res)) ∧ M2 = M') := by
  intro r0 x1 x2 x3 x4 x5 x6 x7 x8 s0 M h
  unfold a_Model_mayGet_0 at h
  refine aw_iload d_Model_mayGet_10 rfl ?_
  refine aw_aload_n d_Model_mayGet_12 rfl rfl ?_
  obtain ⟨t13, e_t13, h⟩ := q_bind h
  refine aw_gti d_Model_mayGet_13 fl_Model_255 (Or.inl rfl) e_t13 ?_
  refine aw_icmp_ge (tgt := 226) d_Model_mayGet_16 (by decide) (fun hc => ?_) (fun hc => ?_)
  · rw [if_pos hc] at h
    refine aw_iload_n d_Model_mayGet_226 rfl rfl ?_
    refine aw_if_eq (tgt := 241) d_Model_mayGet_227 (by decide) (fun hc => ?_) (fun hc => ?_)
    · rw [if_pos hc] at h
      exact aw_pick [] rfl (ih_7 _ _ _ _ _ _ _ _ _ _ _ h)
    · rw [if_neg hc] at h
      refine aw_iload_n d_Model_mayGet_230 rfl rfl ?_
      refine aw_aload_n d_Model_mayGet_231 rfl rfl ?_
      obtain ⟨t232, e_t232, h⟩ := q_bind h
      refine aw_gtr d_Model_mayGet_232 fl_Model_78 (Or.inr ⟨_, rfl⟩) e_t232 ?_
      refine aw_bipush (v := 10) d_Model_mayGet_235 (by decide) ?_
      obtain ⟨t237, e_t237, h⟩ := q_bind h
      refine aw_ldi d_Model_mayGet_237 e_t237 ?_
      refine aw_icmp_gt (tgt := 245) d_Model_mayGet_238 (by decide) (fun hc => ?_) (fun hc => ?_)
      · rw [if_pos hc] at h
        refine aw_iconst (v := 0) d_Model_mayGet_245 (by decide) ?_
        cases h
        exact aw_zreturn d_Model_mayGet_246 rfl (by decide) (Nat.le_of_ble_eq_true rfl) (Nat.le_of_ble_eq_true rfl) ⟨rfl, rfl⟩
      · rw [if_neg hc] at h
        exact aw_pick [] rfl (ih_7 _ _ _ _ _ _ _ _ _ _ _ h)
  · rw [if_neg hc] at h
    refine aw_iload_n d_Model_mayGet_19 rfl rfl ?_
    refine aw_iload d_Model_mayGet_20 rfl ?_
    refine aw_ishr d_Model_mayGet_22 ?_
    refine aw_iconst (v := 1) d_Model_mayGet_23 (by decide) ?_
    refine aw_iand d_Model_mayGet_24 ?_
    refine aw_if_ne (tgt := 31) d_Model_mayGet_25 (by decide) (fun hc => ?_) (fun hc => ?_)
    · rw [if_neg hc] at h
      refine aw_aload_n d_Model_mayGet_31 rfl rfl ?_
      obtain ⟨t32, e_t32, h⟩ := q_bind h
      refine aw_gtr d_Model_mayGet_32 fl_Model_143 (Or.inr ⟨_, rfl⟩) e_t32 ?_
      refine aw_iload d_Model_mayGet_35 rfl ?_
      obtain ⟨t37, e_t37, h⟩ := q_bind h
      refine aw_ldi d_Model_mayGet_37 e_t37 ?_
      refine aw_istore (ls' := [(5, .int _), (0, .ref _), (1, .int _), (2, .int _), (3, .int _), (4, .int _)]) d_Model_mayGet_38 (Nat.le_of_ble_eq_true rfl) rfl ?_
      refine aw_aload_n d_Model_mayGet_40 rfl rfl ?_
      refine aw_aload_n d_Model_mayGet_41 rfl rfl ?_
      obtain ⟨t42, e_t42, h⟩ := q_bind h
      refine aw_gtr d_Model_mayGet_42 fl_Model_109 (Or.inr ⟨_, rfl⟩) e_t42 ?_
      refine aw_iload d_Model_mayGet_45 rfl ?_
      obtain ⟨t47, e_t47, h⟩ := q_bind h
      refine aw_ldi d_Model_mayGet_47 e_t47 ?_
      obtain ⟨M48, e_M48, h⟩ := q_bind h
      refine aw_pti d_Model_mayGet_48 fl_Model_203 rfl rfl e_M48 ?_
      refine aw_iconst (v := 0) d_Model_mayGet_51 (by decide) ?_
      refine aw_istore (ls' := [(6, .int _), (5, .int _), (0, .ref _), (1, .int _), (2, .int _), (3, .int _), (4, .int _)]) d_Model_mayGet_52 (Nat.le_of_ble_eq_true rfl) rfl ?_
      exact aw_pick [2, 3, 4, 5, 6, 1, 0] rfl (ih_1 _ _ _ _ _ _ _ _ _ _ _ h)
    · rw [if_pos hc] at h
      refine aw_goto (tgt := 220) d_Model_mayGet_28 (by decide) ?_
      exact aw_pick [0, 1, 2, 3, 4] rfl (ih_6 _ _ _ _ _ _ _ _ _ _ _ h)
set_option maxHeartbeats 4000000 in
theorem s_Model_mayGet_1 {rc : Nat → Nat → Int32 → Int32 → Int32 → Int32 → Int32 → Int32 → Int32 → Int32 → Int32 → am_M → Option (Int32 × am_M)} {res : Int32} {M' : am_M} (ih_0 : ∀ (r0 : Nat) (x1 : Int32) (x2 : Int32) (x3 : Int32) (x4 : Int32) (x5 : Int32) (x6 : Int32) (x7 : Int32) (x8 : Int32) (s0 : Int32) (M : am_M), rc 0 r0 x1 x2 x3 x4 x5 x6 x7 x8 s0 M = some (res, M') → AW u_Model_mayGet R_Model_mayGet 0 0 10 [(0, .ref r0), (1, .int x1), (2, .int x2), (3, .int x3), (4, .int x4)] [] M (fun r M2 => r = .inl (some (.int res)) ∧ M2 = M')) (ih_1 : ∀ (r0 : Nat) (x1 : Int32) (x2 : Int32) (x3 : Int32) (x4 : Int32) (x5 : Int32) (x6 : Int32) (x7 : Int32) (x8 : Int32) (s0 : Int32) (M : am_M), rc 1 r0 x1 x2 x3 x4 x5 x6 x7 x8 s0 M = some (res, M') → AW u_Model_mayGet R_Model_mayGet 0 0 54 [(0, .ref r0), (1, .int x1), (2, .int x2), (3, .int x3), (4, .int x4), (5, .int x5), (6, .int x6)] [] M (fun r M2 => r = .inl (some (.int res)) ∧ M2 = M')) (ih_2 : ∀ (r0 : Nat) (x1 : Int32) (x2 : Int32) (x3 : Int32) (x4 : Int32) (x5 : Int32) (x6 : Int32) (x7 : Int32) (x8 : Int32) (s0 : Int32) (M : am_M), rc 2 r0 x1 x2 x3 x4 x5 x6 x7 x8 s0 M = some (res, M') → AW u_Model_mayGet R_Model_mayGet 0 0 112 [(0, .ref r0), (1, .int x1), (2, .int x2), (3, .int x3), (4, .int x4), (5, .int x5), (6, .int x6)] [] M (fun r M2 => r = .inl (some (.int res)) ∧ M2 = M')) (ih_3 : ∀ (r0 : Nat) (x1 : Int32) (x2 : Int32) (x3 : Int32) (x4 : Int32) (x5 : Int32) (x6 : Int32) (x7 : Int32) (x8 : Int32) (s0 : Int32) (M : am_M), rc 3 r0 x1 x2 x3 x4 x5 x6 x7 x8 s0 M = some (res, M') → AW u_Model_mayGet R_Model_mayGet 0 0 169 [(0, .ref r0), (1, .int x1), (2, .int x2), (3, .int x3), (4, .int x4), (5, .int x5), (6, .int x6), (7, .int x7)] [.int s0] M (fun r M2 => r = .inl (some (.int res)) ∧ M2 = M')) (ih_4 : ∀ (r0 : Nat) (x1 : Int32) (x2 : Int32) (x3 : Int32) (x4 : Int32) (x5 : Int32) (x6 : Int32) (x7 : Int32) (x8 : Int32) (s0 : Int32) (M : am_M), rc 4 r0 x1 x2 x3 x4 x5 x6 x7 x8 s0 M = some (res, M') → AW u_Model_mayGet R_Model_mayGet 0 0 200 [(0, .ref r0), (1, .int x1), (2, .int x2), (3, .int x3), (4, .int x4), (5, .int x5), (6, .int x6), (8, .int x8)] [.int s0] M (fun r M2 => r = .inl (some (.int res)) ∧ M2 = M')) (ih_5 : ∀ (r0 : Nat) (x1 : Int32) (x2 : Int32) (x3 : Int32) (x4 : Int32) (x5 : Int32) (x6 : Int32) (x7 : Int32) (x8 : Int32) (s0 : Int32) (M : am_M), rc 5 r0 x1 x2 x3 x4 x5 x6 x7 x8 s0 M = some (res, M') → AW u_Model_mayGet R_Model_mayGet 0 0 214 [(0, .ref r0), (1, .int x1), (2, .int x2), (3, .int x3), (4, .int x4), (5, .int x5), (6, .int x6)] [] M (fun r M2 => r = .inl (some (.int res)) ∧ M2 = M')) (ih_6 : ∀ (r0 : Nat) (x1 : Int32) (x2 : Int32) (x3 : Int32) (x4 : Int32) (x5 : Int32) (x6 : Int32) (x7 : Int32) (x8 : Int32) (s0 : Int32) (M : am_M), rc 6 r0 x1 x2 x3 x4 x5 x6 x7 x8 s0 M = some (res, M') → AW u_Model_mayGet R_Model_mayGet 0 0 220 [(0, .ref r0), (1, .int x1), (2, .int x2), (3, .int x3), (4, .int x4)] [] M (fun r M2 => r = .inl (some (.int res)) ∧ M2 = M')) (ih_7 : ∀ (r0 : Nat) (x1 : Int32) (x2 : Int32) (x3 : Int32) (x4 : Int32) (x5 : Int32) (x6 : Int32) (x7 : Int32) (x8 : Int32) (s0 : Int32) (M : am_M), rc 7 r0 x1 x2 x3 x4 x5 x6 x7 x8 s0 M = some (res, M') → AW u_Model_mayGet R_Model_mayGet 0 0 241 [] [] M (fun r M2 => r = .inl (some (.int res)) ∧ M2 = M')) : ∀ (r0 : Nat) (x1 : Int32) (x2 : Int32) (x3 : Int32) (x4 : Int32) (x5 : Int32) (x6 : Int32) (x7 : Int32) (x8 : Int32) (s0 : Int32) (M : am_M), a_Model_mayGet_1 rc r0 x1 x2 x3 x4 x5 x6 x7 x8 s0 M = some (res, M') → AW u_Model_mayGet R_Model_mayGet 0 0 54 [(0, .ref r0), (1, .int x1), (2, .int x2), (3, .int x3), (4, .int x4), (5, .int x5), (6, .int x6)] [] M (fun r M2 => r = .inl (some (.int res)) ∧ M2 = M') := by
  intro r0 x1 x2 x3 x4 x5 x6 x7 x8 s0 M h
  unfold a_Model_mayGet_1 at h
  refine aw_iload d_Model_mayGet_54 rfl ?_
  refine aw_aload_n d_Model_mayGet_56 rfl rfl ?_
  obtain ⟨t57, e_t57, h⟩ := q_bind h
  refine aw_gti d_Model_mayGet_57 fl_Model_203 (Or.inl rfl) e_t57 ?_
  refine aw_icmp_ge (tgt := 89) d_Model_mayGet_60 (by decide) (fun hc => ?_) (fun hc => ?_)
  · rw [if_pos hc] at h
    refine aw_aload_n d_Model_mayGet_89 rfl rfl ?_
    refine aw_iload_n d_Model_mayGet_90 rfl rfl ?_
    obtain ⟨o91, e_o91, h⟩ := q_bind h
    obtain ⟨⟨t91, M91⟩, e_t91, h⟩ := q_bind h
    dsimp only at h
    refine aw_cV (v := (some (.int t91))) (As := [.int x1]) (rest := []) (st' := [.int t91]) d_Model_mayGet_91 kV_Model_229 (q_ob_spec e_o91).1 (q_ob_spec e_o91).2 ⟨Nat.le_of_ble_eq_true rfl, Nat.le_of_ble_eq_true rfl, Nat.le_of_ble_eq_true rfl, Nat.le_of_ble_eq_true rfl⟩ rfl rfl (Nat.le_of_ble_eq_true rfl) rfl (mt_Model_judge e_t91) ?_
    refine aw_if_le (tgt := 99) d_Model_mayGet_94 (by decide) (fun hc => ?_) (fun hc => ?_)
    · rw [if_pos hc] at h
      refine aw_iload_n d_Model_mayGet_99 rfl rfl ?_
      refine aw_aload_n d_Model_mayGet_100 rfl rfl ?_
      obtain ⟨t101, e_t101, h⟩ := q_bind h
      refine aw_gtr d_Model_mayGet_101 fl_Model_118 (Or.inr ⟨_, rfl⟩) e_t101 ?_
      refine aw_iload d_Model_mayGet_104 rfl ?_
      obtain ⟨t106, e_t106, h⟩ := q_bind h
      refine aw_ldi d_Model_mayGet_106 e_t106 ?_
      refine aw_iadd d_Model_mayGet_107 ?_
      refine aw_istore_n (ls' := [(3, .int _), (0, .ref _), (1, .int _), (2, .int _), (4, .int _), (5, .int _), (6, .int _)]) d_Model_mayGet_108 rfl (Nat.le_of_ble_eq_true rfl) rfl ?_
      refine aw_iconst (v := 0) d_Model_mayGet_109 (by decide) ?_
      refine aw_istore (ls' := [(6, .int _), (3, .int _), (0, .ref _), (1, .int _), (2, .int _), (4, .int _), (5, .int _)]) d_Model_mayGet_110 (Nat.le_of_ble_eq_true rfl) rfl ?_
      exact aw_pick [2, 3, 4, 1, 5, 6, 0] rfl (ih_2 _ _ _ _ _ _ _ _ _ _ _ h)
    · rw [if_neg hc] at h
      refine aw_iconst (v := 0) d_Model_mayGet_97 (by decide) ?_
      cases h
      exact aw_zreturn d_Model_mayGet_98 rfl (by decide) (Nat.le_of_ble_eq_true rfl) (Nat.le_of_ble_eq_true rfl) ⟨rfl, rfl⟩
  · rw [if_neg hc] at h
    refine aw_aload_n d_Model_mayGet_63 rfl rfl ?_
    obtain ⟨t64, e_t64, h⟩ := q_bind h
    refine aw_gtr d_Model_mayGet_64 fl_Model_87 (Or.inr ⟨_, rfl⟩) e_t64 ?_
    refine aw_iload d_Model_mayGet_67 rfl ?_
    refine aw_aload_n d_Model_mayGet_69 rfl rfl ?_
    obtain ⟨t70, e_t70, h⟩ := q_bind h
    refine aw_gtr d_Model_mayGet_70 fl_Model_106 (Or.inr ⟨_, rfl⟩) e_t70 ?_
    refine aw_bipush (v := 8) d_Model_mayGet_73 (by decide) ?_
    refine aw_iload d_Model_mayGet_75 rfl ?_
    refine aw_imul d_Model_mayGet_77 ?_
    refine aw_iload d_Model_mayGet_78 rfl ?_
    refine aw_iadd d_Model_mayGet_80 ?_
    obtain ⟨t81, e_t81, h⟩ := q_bind h
    refine aw_ldi d_Model_mayGet_81 e_t81 ?_
    obtain ⟨M82, e_M82, h⟩ := q_bind h
    refine aw_sti d_Model_mayGet_82 e_M82 ?_
    refine aw_iinc (v := (x6 + (1 : Int32))) (ls' := [(6, .int _), (0, .ref _), (1, .int _), (2, .int _), (3, .int _), (4, .int _), (5, .int _)]) d_Model_mayGet_83 rfl rfl (Nat.le_of_ble_eq_true rfl) rfl ?_
    refine aw_goto (tgt := 54) d_Model_mayGet_86 (by decide) ?_
    exact aw_pick [1, 2, 3, 4, 5, 6, 0] rfl (ih_1 _ _ _ _ _ _ _ _ _ _ _ h)
set_option maxHeartbeats 4000000 in
theorem s_Model_mayGet_2 {rc : Nat → Nat → Int32 → Int32 → Int32 → Int32 → Int32 → Int32 → Int32 → Int32 → Int32 → am_M → Option (Int32 × am_M)} {res : Int32} {M' : am_M} (ih_0 : ∀ (r0 : Nat) (x1 : Int32) (x2 : Int32) (x3 : Int32) (x4 : Int32) (x5 : Int32) (x6 : Int32) (x7 : Int32) (x8 : Int32) (s0 : Int32) (M : am_M), rc 0 r0 x1 x2 x3 x4 x5 x6 x7 x8 s0 M = some (res, M') → AW u_Model_mayGet R_Model_mayGet 0 0 10 [(0, .ref r0), (1, .int x1), (2, .int x2), (3, .int x3), (4, .int x4)] [] M (fun r M2 => r = .inl (some (.int res)) ∧ M2 = M')) (ih_1 : ∀ (r0 : Nat) (x1 : Int32) (x2 : Int32) (x3 : Int32) (x4 : Int32) (x5 : Int32) (x6 : Int32) (x7 : Int32) (x8 : Int32) (s0 : Int32) (M : am_M), rc 1 r0 x1 x2 x3 x4 x5 x6 x7 x8 s0 M = some (res, M') → AW u_Model_mayGet R_Model_mayGet 0 0 54 [(0, .ref r0), (1, .int x1), (2, .int x2), (3, .int x3), (4, .int x4), (5, .int x5), (6, .int x6)] [] M (fun r M2 => r = .inl (some (.int res)) ∧ M2 = M')) (ih_2 : ∀ (r0 : Nat) (x1 : Int32) (x2 : Int32) (x3 : Int32) (x4 : Int32) (x5 : Int32) (x6 : Int32) (x7 : Int32) (x8 : Int32) (s0 : Int32) (M : am_M), rc 2 r0 x1 x2 x3 x4 x5 x6 x7 x8 s0 M = some (res, M') → AW u_Model_mayGet R_Model_mayGet 0 0 112 [(0, .ref r0), (1, .int x1), (2, .int x2), (3, .int x3), (4, .int x4), (5, .int x5), (6, .int x6)] [] M (fun r M2 => r = .inl (some (.int res)) ∧ M2 = M')) (ih_3 : ∀ (r0 : Nat) (x1 : Int32) (x2 : Int32) (x3 : Int32) (x4 : Int32) (x5 : Int32) (x6 : Int32) (x7 : Int32) (x8 : Int32) (s0 : Int32) (M : am_M), rc 3 r0 x1 x2 x3 x4 x5 x6 x7 x8 s0 M = some (res, M') → AW u_Model_mayGet R_Model_mayGet 0 0 169 [(0, .ref r0), (1, .int x1), (2, .int x2), (3, .int x3), (4, .int x4), (5, .int x5), (6, .int x6), (7, .int x7)] [.int s0] M (fun r M2 => r = .inl (some (.int res)) ∧ M2 = M')) (ih_4 : ∀ (r0 : Nat) (x1 : Int32) (x2 : Int32) (x3 : Int32) (x4 : Int32) (x5 : Int32) (x6 : Int32) (x7 : Int32) (x8 : Int32) (s0 : Int32) (M : am_M), rc 4 r0 x1 x2 x3 x4 x5 x6 x7 x8 s0 M = some (res, M') → AW u_Model_mayGet R_Model_mayGet 0 0 200 [(0, .ref r0), (1, .int x1), (2, .int x2), (3, .int x3), (4, .int x4), (5, .int x5), (6, .int x6), (8, .int x8)] [.int s0] M (fun r M2 => r = .inl (some (.int res)) ∧ M2 = M')) (ih_5 : ∀ (r0 : Nat) (x1 : Int32) (x2 : Int32) (x3 : Int32) (x4 : Int32) (x5 : Int32) (x6 : Int32) (x7 : Int32) (x8 : Int32) (s0 : Int32) (M : am_M), rc 5 r0 x1 x2 x3 x4 x5 x6 x7 x8 s0 M = some (res, M') → AW u_Model_mayGet R_Model_mayGet 0 0 214 [(0, .ref r0), (1, .int x1), (2, .int x2), (3, .int x3), (4, .int x4), (5, .int x5), (6, .int x6)] [] M (fun r M2 => r = .inl (some (.int res)) ∧ M2 = M')) (ih_6 : ∀ (r0 : Nat) (x1 : Int32) (x2 : Int32) (x3 : Int32) (x4 : Int32) (x5 : Int32) (x6 : Int32) (x7 : Int32) (x8 : Int32) (s0 : Int32) (M : am_M), rc 6 r0 x1 x2 x3 x4 x5 x6 x7 x8 s0 M = some (res, M') → AW u_Model_mayGet R_Model_mayGet 0 0 220 [(0, .ref r0), (1, .int x1), (2, .int x2), (3, .int x3), (4, .int x4)] [] M (fun r M2 => r = .inl (some (.int res)) ∧ M2 = M')) (ih_7 : ∀ (r0 : Nat) (x1 : Int32) (x2 : Int32) (x3 : Int32) (x4 : Int32) (x5 : Int32) (x6 : Int32) (x7 : Int32) (x8 : Int32) (s0 : Int32) (M : am_M), rc 7 r0 x1 x2 x3 x4 x5 x6 x7 x8 s0 M = some (res, M') → AW u_Model_mayGet R_Model_mayGet 0 0 241 [] [] M (fun r M2 => r = .inl (some (.int res)) ∧ M2 = M')) : ∀ (r0 : Nat) (x1 : Int32) (x2 : Int32) (x3 : Int32) (x4 : Int32) (x5 : Int32) (x6 : Int32) (x7 : Int32) (x8 : Int32) (s0 : Int32) (M : am_M), a_Model_mayGet_2 rc r0 x1 x2 x3 x4 x5 x6 x7 x8 s0 M = some (res, M') → AW u_Model_mayGet R_Model_mayGet 0 0 112 [(0, .ref r0), (1, .int x1), (2, .int x2), (3, .int x3), (4, .int x4), (5, .int x5), (6, .int x6)] [] M (fun r M2 => r = .inl (some (.int res)) ∧ M2 = M') := by
  intro r0 x1 x2 x3 x4 x5 x6 x7 x8 s0 M h
  unfold a_Model_mayGet_2 at h
  refine aw_iload d_Model_mayGet_112 rfl ?_
  refine aw_iload d_Model_mayGet_114 rfl ?_
  refine aw_icmp_ge (tgt := 220) d_Model_mayGet_116 (by decide) (fun hc => ?_) (fun hc => ?_)
  · rw [if_pos hc] at h
    exact aw_pick [0, 1, 2, 3, 4] rfl (ih_6 _ _ _ _ _ _ _ _ _ _ _ h)
  · rw [if_neg hc] at h
    refine aw_iload_n d_Model_mayGet_119 rfl rfl ?_
    refine aw_iload d_Model_mayGet_120 rfl ?_
    refine aw_ishr d_Model_mayGet_122 ?_
    refine aw_iconst (v := 1) d_Model_mayGet_123 (by decide) ?_
    refine aw_iand d_Model_mayGet_124 ?_
    refine aw_if_ne (tgt := 131) d_Model_mayGet_125 (by decide) (fun hc => ?_) (fun hc => ?_)
    · rw [if_neg hc] at h
      refine aw_aload_n d_Model_mayGet_131 rfl rfl ?_
      obtain ⟨t132, e_t132, h⟩ := q_bind h
      refine aw_gtr d_Model_mayGet_132 fl_Model_143 (Or.inr ⟨_, rfl⟩) e_t132 ?_
      refine aw_iload d_Model_mayGet_135 rfl ?_
      obtain ⟨t137, e_t137, h⟩ := q_bind h
      refine aw_ldi d_Model_mayGet_137 e_t137 ?_
      refine aw_istore (ls' := [(7, .int _), (0, .ref _), (1, .int _), (2, .int _), (3, .int _), (4, .int _), (5, .int _), (6, .int _)]) d_Model_mayGet_138 (Nat.le_of_ble_eq_true rfl) rfl ?_
      refine aw_aload_n d_Model_mayGet_140 rfl rfl ?_
      obtain ⟨t141, e_t141, h⟩ := q_bind h
      refine aw_gtr d_Model_mayGet_141 fl_Model_112 (Or.inr ⟨_, rfl⟩) e_t141 ?_
      refine aw_iload d_Model_mayGet_144 rfl ?_
      obtain ⟨t146, e_t146, h⟩ := q_bind h
      refine aw_ldi d_Model_mayGet_146 e_t146 ?_
      refine aw_aload_n d_Model_mayGet_147 rfl rfl ?_
      obtain ⟨t148, e_t148, h⟩ := q_bind h
      refine aw_gtr d_Model_mayGet_148 fl_Model_115 (Or.inr ⟨_, rfl⟩) e_t148 ?_
      refine aw_iload d_Model_mayGet_151 rfl ?_
      obtain ⟨t153, e_t153, h⟩ := q_bind h
      refine aw_ldi d_Model_mayGet_153 e_t153 ?_
      refine aw_aload_n d_Model_mayGet_154 rfl rfl ?_
      obtain ⟨t155, e_t155, h⟩ := q_bind h
      refine aw_gtr d_Model_mayGet_155 fl_Model_78 (Or.inr ⟨_, rfl⟩) e_t155 ?_
      refine aw_iconst (v := 4) d_Model_mayGet_158 (by decide) ?_
      obtain ⟨t159, e_t159, h⟩ := q_bind h
      refine aw_ldi d_Model_mayGet_159 e_t159 ?_
      refine aw_iadd d_Model_mayGet_160 ?_
      refine aw_icmp_lt (tgt := 168) d_Model_mayGet_161 (by decide) (fun hc => ?_) (fun hc => ?_)
      · rw [if_pos hc] at h
        refine aw_iconst (v := 0) d_Model_mayGet_168 (by decide) ?_
        exact aw_pick [1, 2, 3, 4, 5, 6, 7, 0] rfl (ih_3 _ _ _ _ _ _ _ _ _ _ _ h)
      · rw [if_neg hc] at h
        refine aw_iconst (v := 1) d_Model_mayGet_164 (by decide) ?_
        refine aw_goto (tgt := 169) d_Model_mayGet_165 (by decide) ?_
        exact aw_pick [1, 2, 3, 4, 5, 6, 7, 0] rfl (ih_3 _ _ _ _ _ _ _ _ _ _ _ h)
    · rw [if_pos hc] at h
      refine aw_goto (tgt := 214) d_Model_mayGet_128 (by decide) ?_
      exact aw_pick [0, 1, 2, 3, 4, 5, 6] rfl (ih_5 _ _ _ _ _ _ _ _ _ _ _ h)
set_option maxHeartbeats 4000000 in
theorem s_Model_mayGet_3 {rc : Nat → Nat → Int32 → Int32 → Int32 → Int32 → Int32 → Int32 → Int32 → Int32 → Int32 → am_M → Option (Int32 × am_M)} {res : Int32} {M' : am_M} (ih_0 : ∀ (r0 : Nat) (x1 : Int32) (x2 : Int32) (x3 : Int32) (x4 : Int32) (x5 : Int32) (x6 : Int32) (x7 : Int32) (x8 : Int32) (s0 : Int32) (M : am_M), rc 0 r0 x1 x2 x3 x4 x5 x6 x7 x8 s0 M = some (res, M') → AW u_Model_mayGet R_Model_mayGet 0 0 10 [(0, .ref r0), (1, .int x1), (2, .int x2), (3, .int x3), (4, .int x4)] [] M (fun r M2 => r = .inl (some (.int res)) ∧ M2 = M')) (ih_1 : ∀ (r0 : Nat) (x1 : Int32) (x2 : Int32) (x3 : Int32) (x4 : Int32) (x5 : Int32) (x6 : Int32) (x7 : Int32) (x8 : Int32) (s0 : Int32) (M : am_M), rc 1 r0 x1 x2 x3 x4 x5 x6 x7 x8 s0 M = some (res, M') → AW u_Model_mayGet R_Model_mayGet 0 0 54 [(0, .ref r0), (1, .int x1), (2, .int x2), (3, .int x3), (4, .int x4), (5, .int x5), (6, .int x6)] [] M (fun r M2 => r = .inl (some (.int res)) ∧ M2 = M')) (ih_2 : ∀ (r0 : Nat) (x1 : Int32) (x2 : Int32) (x3 : Int32) (x4 : Int32) (x5 : Int32) (x6 : Int32) (x7 : Int32) (x8 : Int32) (s0 : Int32) (M : am_M), rc 2 r0 x1 x2 x3 x4 x5 x6 x7 x8 s0 M = some (res, M') → AW u_Model_mayGet R_Model_mayGet 0 0 112 [(0, .ref r0), (1, .int x1), (2, .int x2), (3, .int x3), (4, .int x4), (5, .int x5), (6, .int x6)] [] M (fun r M2 => r = .inl (some (.int res)) ∧ M2 = M')) (ih_3 : ∀ (r0 : Nat) (x1 : Int32) (x2 : Int32) (x3 : Int32) (x4 : Int32) (x5 : Int32) (x6 : Int32) (x7 : Int32) (x8 : Int32) (s0 : Int32) (M : am_M), rc 3 r0 x1 x2 x3 x4 x5 x6 x7 x8 s0 M = some (res, M') → AW u_Model_mayGet R_Model_mayGet 0 0 169 [(0, .ref r0), (1, .int x1), (2, .int x2), (3, .int x3), (4, .int x4), (5, .int x5), (6, .int x6), (7, .int x7)] [.int s0] M (fun r M2 => r = .inl (some (.int res)) ∧ M2 = M')) (ih_4 : ∀ (r0 : Nat) (x1 : Int32) (x2 : Int32) (x3 : Int32) (x4 : Int32) (x5 : Int32) (x6 : Int32) (x7 : Int32) (x8 : Int32) (s0 : Int32) (M : am_M), rc 4 r0 x1 x2 x3 x4 x5 x6 x7 x8 s0 M = some (res, M') → AW u_Model_mayGet R_Model_mayGet 0 0 200 [(0, .ref r0), (1, .int x1), (2, .int x2), (3, .int x3), (4, .int x4), (5, .int x5), (6, .int x6), (8, .int x8)] [.int s0] M (fun r M2 => r = .inl (some (.int res)) ∧ M2 = M')) (ih_5 : ∀ (r0 : Nat) (x1 : Int32) (x2 : Int32) (x3 : Int32) (x4 : Int32) (x5 : Int32) (x6 : Int32) (x7 : Int32) (x8 : Int32) (s0 : Int32) (M : am_M), rc 5 r0 x1 x2 x3 x4 x5 x6 x7 x8 s0 M = some (res, M') → AW u_Model_mayGet R_Model_mayGet 0 0 214 [(0, .ref r0), (1, .int x1), (2, .int x2), (3, .int x3), (4, .int x4), (5, .int x5), (6, .int x6)] [] M (fun r M2 => r = .inl (some (.int res)) ∧ M2 = M')) (ih_6 : ∀ (r0 : Nat) (x1 : Int32) (x2 : Int32) (x3 : Int32) (x4 : Int32) (x5 : Int32) (x6 : Int32) (x7 : Int32) (x8 : Int32) (s0 : Int32) (M : am_M), rc 6 r0 x1 x2 x3 x4 x5 x6 x7 x8 s0 M = some (res, M') → AW u_Model_mayGet R_Model_mayGet 0 0 220 [(0, .ref r0), (1, .int x1), (2, .int x2), (3, .int x3), (4, .int x4)] [] M (fun r M2 => r = .inl (some (.int res)) ∧ M2 = M')) (ih_7 : ∀ (r0 : Nat) (x1 : Int32) (x2 : Int32) (x3 : Int32) (x4 : Int32) (x5 : Int32) (x6 : Int32) (x7 : Int32) (x8 : Int32) (s0 : Int32) (M : am_M), rc 7 r0 x1 x2 x3 x4 x5 x6 x7 x8 s0 M = some (res, M') → AW u_Model_mayGet R_Model_mayGet 0 0 241 [] [] M (fun r M2 => r = .inl (some (.int res)) ∧ M2 = M')) : ∀ (r0 : Nat) (x1 : Int32) (x2 : Int32) (x3 : Int32) (x4 : Int32) (x5 : Int32) (x6 : Int32) (x7 : Int32) (x8 : Int32) (s0 : Int32) (M : am_M), a_Model_mayGet_3 rc r0 x1 x2 x3 x4 x5 x6 x7 x8 s0 M = some (res, M') → AW u_Model_mayGet R_Model_mayGet 0 0 169 [(0, .ref r0), (1, .int x1), (2, .int x2), (3, .int x3), (4, .int x4), (5, .int x5), (6, .int x6), (7, .int x7)] [.int s0] M (fun r M2 => r = .inl (some (.int res)) ∧ M2 = M') := by
  intro r0 x1 x2 x3 x4 x5 x6 x7 x8 s0 M h
  unfold a_Model_mayGet_3 at h
  refine aw_istore (ls' := [(8, .int _), (0, .ref _), (1, .int _), (2, .int _), (3, .int _), (4, .int _), (5, .int _), (6, .int _), (7, .int _)]) d_Model_mayGet_169 (Nat.le_of_ble_eq_true rfl) rfl ?_
  refine aw_aload_n d_Model_mayGet_171 rfl rfl ?_
  obtain ⟨t172, e_t172, h⟩ := q_bind h
  refine aw_gtr d_Model_mayGet_172 fl_Model_112 (Or.inr ⟨_, rfl⟩) e_t172 ?_
  refine aw_iload d_Model_mayGet_175 rfl ?_
  obtain ⟨t177, e_t177, h⟩ := q_bind h
  refine aw_ldi d_Model_mayGet_177 e_t177 ?_
  refine aw_aload_n d_Model_mayGet_178 rfl rfl ?_
  obtain ⟨t179, e_t179, h⟩ := q_bind h
  refine aw_gtr d_Model_mayGet_179 fl_Model_115 (Or.inr ⟨_, rfl⟩) e_t179 ?_
  refine aw_iload d_Model_mayGet_182 rfl ?_
  obtain ⟨t184, e_t184, h⟩ := q_bind h
  refine aw_ldi d_Model_mayGet_184 e_t184 ?_
  refine aw_aload_n d_Model_mayGet_185 rfl rfl ?_
  obtain ⟨t186, e_t186, h⟩ := q_bind h
  refine aw_gtr d_Model_mayGet_186 fl_Model_78 (Or.inr ⟨_, rfl⟩) e_t186 ?_
  refine aw_iconst (v := 4) d_Model_mayGet_189 (by decide) ?_
  obtain ⟨t190, e_t190, h⟩ := q_bind h
  refine aw_ldi d_Model_mayGet_190 e_t190 ?_
  refine aw_iadd d_Model_mayGet_191 ?_
  refine aw_icmp_lt (tgt := 199) d_Model_mayGet_192 (by decide) (fun hc => ?_) (fun hc => ?_)
  · rw [if_pos hc] at h
    refine aw_iconst (v := 0) d_Model_mayGet_199 (by decide) ?_
    exact aw_pick [1, 2, 3, 4, 5, 6, 7, 0] rfl (ih_4 _ _ _ _ _ _ _ _ _ _ _ h)
  · rw [if_neg hc] at h
    refine aw_iconst (v := 1) d_Model_mayGet_195 (by decide) ?_
    refine aw_goto (tgt := 200) d_Model_mayGet_196 (by decide) ?_
    exact aw_pick [1, 2, 3, 4, 5, 6, 7, 0] rfl (ih_4 _ _ _ _ _ _ _ _ _ _ _ h)
set_option maxHeartbeats 4000000 in
theorem s_Model_mayGet_4 {rc : Nat → Nat → Int32 → Int32 → Int32 → Int32 → Int32 → Int32 → Int32 → Int32 → Int32 → am_M → Option (Int32 × am_M)} {res : Int32} {M' : am_M} (ih_0 : ∀ (r0 : Nat) (x1 : Int32) (x2 : Int32) (x3 : Int32) (x4 : Int32) (x5 : Int32) (x6 : Int32) (x7 : Int32) (x8 : Int32) (s0 : Int32) (M : am_M), rc 0 r0 x1 x2 x3 x4 x5 x6 x7 x8 s0 M = some (res, M') → AW u_Model_mayGet R_Model_mayGet 0 0 10 [(0, .ref r0), (1, .int x1), (2, .int x2), (3, .int x3), (4, .int x4)] [] M (fun r M2 => r = .inl (some (.int res)) ∧ M2 = M')) (ih_1 : ∀ (r0 : Nat) (x1 : Int32) (x2 : Int32) (x3 : Int32) (x4 : Int32) (x5 : Int32) (x6 : Int32) (x7 : Int32) (x8 : Int32) (s0 : Int32) (M : am_M), rc 1 r0 x1 x2 x3 x4 x5 x6 x7 x8 s0 M = some (res, M') → AW u_Model_mayGet R_Model_mayGet 0 0 54 [(0, .ref r0), (1, .int x1), (2, .int x2), (3, .int x3), (4, .int x4), (5, .int x5), (6, .int x6)] [] M (fun r M2 => r = .inl (some (.int res)) ∧ M2 = M')) (ih_2 : ∀ (r0 : Nat) (x1 : Int32) (x2 : Int32) (x3 : Int32) (x4 : Int32) (x5 : Int32) (x6 : Int32) (x7 : Int32) (x8 : Int32) (s0 : Int32) (M : am_M), rc 2 r0 x1 x2 x3 x4 x5 x6 x7 x8 s0 M = some (res, M') → AW u_Model_mayGet R_Model_mayGet 0 0 112 [(0, .ref r0), (1, .int x1), (2, .int x2), (3, .int x3), (4, .int x4), (5, .int x5), (6, .int x6)] [] M (fun r M2 => r = .inl (some (.int res)) ∧ M2 = M')) (ih_3 : ∀ (r0 : Nat) (x1 : Int32) (x2 : Int32) (x3 : Int32) (x4 : Int32) (x5 : Int32) (x6 : Int32) (x7 : Int32) (x8 : Int32) (s0 : Int32) (M : am_M), rc 3 r0 x1 x2 x3 x4 x5 x6 x7 x8 s0 M = some (res, M') → AW u_Model_mayGet R_Model_mayGet 0 0 169 [(0, .ref r0), (1, .int x1), (2, .int x2), (3, .int x3), (4, .int x4), (5, .int x5), (6, .int x6), (7, .int x7)] [.int s0] M (fun r M2 => r = .inl (some (.int res)) ∧ M2 = M')) (ih_4 : ∀ (r0 : Nat) (x1 : Int32) (x2 : Int32) (x3 : Int32) (x4 : Int32) (x5 : Int32) (x6 : Int32) (x7 : Int32) (x8 : Int32) (s0 : Int32) (M : am_M), rc 4 r0 x1 x2 x3 x4 x5 x6 x7 x8 s0 M = some (res, M') → AW u_Model_mayGet R_Model_mayGet 0 0 200 [(0, .ref r0), (1, .int x1), (2, .int x2), (3, .int x3), (4, .int x4), (5, .int x5), (6, .int x6), (8, .int x8)] [.int s0] M (fun r M2 => r = .inl (some (.int res)) ∧ M2 = M')) (ih_5 : ∀ (r0 : Nat) (x1 : Int32) (x2 : Int32) (x3 : Int32) (x4 : Int32) (x5 : Int32) (x6 : Int32) (x7 : Int32) (x8 : Int32) (s0 : Int32) (M : am_M), rc 5 r0 x1 x2 x3 x4 x5 x6 x7 x8 s0 M = some (res, M') → AW u_Model_mayGet R_Model_mayGet 0 0 214 [(0, .ref r0), (1, .int x1), (2, .int x2), (3, .int x3), (4, .int x4), (5, .int x5), (6, .int x6)] [] M (fun r M2 => r = .inl (some (.int res)) ∧ M2 = M')) (ih_6 : ∀ (r0 : Nat) (x1 : Int32) (x2 : Int32) (x3 : Int32) (x4 : Int32) (x5 : Int32) (x6 : Int32) (x7 : Int32) (x8 : Int32) (s0 : Int32) (M : am_M), rc 6 r0 x1 x2 x3 x4 x5 x6 x7 x8 s0 M = some (res, M') → AW u_Model_mayGet R_Model_mayGet 0 0 220 [(0, .ref r0), (1, .int x1), (2, .int x2), (3, .int x3), (4, .int x4)] [] M (fun r M2 => r = .inl (some (.int res)) ∧ M2 = M')) (ih_7 : ∀ (r0 : Nat) (x1 : Int32) (x2 : Int32) (x3 : Int32) (x4 : Int32) (x5 : Int32) (x6 : Int32) (x7 : Int32) (x8 : Int32) (s0 : Int32) (M : am_M), rc 7 r0 x1 x2 x3 x4 x5 x6 x7 x8 s0 M = some (res, M') → AW u_Model_mayGet R_Model_mayGet 0 0 241 [] [] M (fun r M2 => r = .inl (some (.int res)) ∧ M2 = M')) : ∀ (r0 : Nat) (x1 : Int32) (x2 : Int32) (x3 : Int32) (x4 : Int32) (x5 : Int32) (x6 : Int32) (x7 : Int32) (x8 : Int32) (s0 : Int32) (M : am_M), a_Model_mayGet_4 rc r0 x1 x2 x3 x4 x5 x6 x7 x8 s0 M = some (res, M') → AW u_Model_mayGet R_Model_mayGet 0 0 200 [(0, .ref r0), (1, .int x1), (2, .int x2), (3, .int x3), (4, .int x4), (5, .int x5), (6, .int x6), (8, .int x8)] [.int s0] M (fun r M2 => r = .inl (some (.int res)) ∧ M2 = M') := by
  intro r0 x1 x2 x3 x4 x5 x6 x7 x8 s0 M h
  unfold a_Model_mayGet_4 at h
  refine aw_istore (ls' := [(9, .int _), (0, .ref _), (1, .int _), (2, .int _), (3, .int _), (4, .int _), (5, .int _), (6, .int _), (8, .int _)]) d_Model_mayGet_200 (Nat.le_of_ble_eq_true rfl) rfl ?_
  refine aw_iload d_Model_mayGet_202 rfl ?_
  refine aw_if_ne (tgt := 214) d_Model_mayGet_204 (by decide) (fun hc => ?_) (fun hc => ?_)
  · rw [if_neg hc] at h
    exact aw_pick [1, 2, 3, 4, 5, 6, 7] rfl (ih_5 _ _ _ _ _ _ _ _ _ _ _ h)
  · rw [if_pos hc] at h
    refine aw_iload d_Model_mayGet_207 rfl ?_
    refine aw_if_ne (tgt := 214) d_Model_mayGet_209 (by decide) (fun hc => ?_) (fun hc => ?_)
    · rw [if_neg hc] at h
      exact aw_pick [1, 2, 3, 4, 5, 6, 7] rfl (ih_5 _ _ _ _ _ _ _ _ _ _ _ h)
    · rw [if_pos hc] at h
      refine aw_iconst (v := 0) d_Model_mayGet_212 (by decide) ?_
      cases h
      exact aw_zreturn d_Model_mayGet_213 rfl (by decide) (Nat.le_of_ble_eq_true rfl) (Nat.le_of_ble_eq_true rfl) ⟨rfl, rfl⟩
set_option maxHeartbeats 4000000 in
theorem s_Model_mayGet_5 {rc : Nat → Nat → Int32 → Int32 → Int32 → Int32 → Int32 → Int32 → Int32 → Int32 → Int32 → am_M → Option (Int32 × am_M)} {res : Int32} {M' : am_M} (ih_0 : ∀ (r0 : Nat) (x1 : Int32) (x2 : Int32) (x3 : Int32) (x4 : Int32) (x5 : Int32) (x6 : Int32) (x7 : Int32) (x8 : Int32) (s0 : Int32) (M : am_M), rc 0 r0 x1 x2 x3 x4 x5 x6 x7 x8 s0 M = some (res, M') → AW u_Model_mayGet R_Model_mayGet 0 0 10 [(0, .ref r0), (1, .int x1), (2, .int x2), (3, .int x3), (4, .int x4)] [] M (fun r M2 => r = .inl (some (.int res)) ∧ M2 = M')) (ih_1 : ∀ (r0 : Nat) (x1 : Int32) (x2 : Int32) (x3 : Int32) (x4 : Int32) (x5 : Int32) (x6 : Int32) (x7 : Int32) (x8 : Int32) (s0 : Int32) (M : am_M), rc 1 r0 x1 x2 x3 x4 x5 x6 x7 x8 s0 M = some (res, M') → AW u_Model_mayGet R_Model_mayGet 0 0 54 [(0, .ref r0), (1, .int x1), (2, .int x2), (3, .int x3), (4, .int x4), (5, .int x5), (6, .int x6)] [] M (fun r M2 => r = .inl (some (.int res)) ∧ M2 = M')) (ih_2 : ∀ (r0 : Nat) (x1 : Int32) (x2 : Int32) (x3 : Int32) (x4 : Int32) (x5 : Int32) (x6 : Int32) (x7 : Int32) (x8 : Int32) (s0 : Int32) (M : am_M), rc 2 r0 x1 x2 x3 x4 x5 x6 x7 x8 s0 M = some (res, M') → AW u_Model_mayGet R_Model_mayGet 0 0 112 [(0, .ref r0), (1, .int x1), (2, .int x2), (3, .int x3), (4, .int x4), (5, .int x5), (6, .int x6)] [] M (fun r M2 => r = .inl (some (.int res)) ∧ M2 = M')) (ih_3 : ∀ (r0 : Nat) (x1 : Int32) (x2 : Int32) (x3 : Int32) (x4 : Int32) (x5 : Int32) (x6 : Int32) (x7 : Int32) (x8 : Int32) (s0 : Int32) (M : am_M), rc 3 r0 x1 x2 x3 x4 x5 x6 x7 x8 s0 M = some (res, M') → AW u_Model_mayGet R_Model_mayGet 0 0 169 [(0, .ref r0), (1, .int x1), (2, .int x2), (3, .int x3), (4, .int x4), (5, .int x5), (6, .int x6), (7, .int x7)] [.int s0] M (fun r M2 => r = .inl (some (.int res)) ∧ M2 = M')) (ih_4 : ∀ (r0 : Nat) (x1 : Int32) (x2 : Int32) (x3 : Int32) (x4 : Int32) (x5 : Int32) (x6 : Int32) (x7 : Int32) (x8 : Int32) (s0 : Int32) (M : am_M), rc 4 r0 x1 x2 x3 x4 x5 x6 x7 x8 s0 M = some (res, M') → AW u_Model_mayGet R_Model_mayGet 0 0 200 [(0, .ref r0), (1, .int x1), (2, .int x2), (3, .int x3), (4, .int x4), (5, .int x5), (6, .int x6), (8, .int x8)] [.int s0] M (fun r M2 => r = .inl (some (.int res)) ∧ M2 = M')) (ih_5 : ∀ (r0 : Nat) (x1 : Int32) (x2 : Int32) (x3 : Int32) (x4 : Int32) (x5 : Int32) (x6 : Int32) (x7 : Int32) (x8 : Int32) (s0 : Int32) (M : am_M), rc 5 r0 x1 x2 x3 x4 x5 x6 x7 x8 s0 M = some (res, M') → AW u_Model_mayGet R_Model_mayGet 0 0 214 [(0, .ref r0), (1, .int x1), (2, .int x2), (3, .int x3), (4, .int x4), (5, .int x5), (6, .int x6)] [] M (fun r M2 => r = .inl (some (.int res)) ∧ M2 = M')) (ih_6 : ∀ (r0 : Nat) (x1 : Int32) (x2 : Int32) (x3 : Int32) (x4 : Int32) (x5 : Int32) (x6 : Int32) (x7 : Int32) (x8 : Int32) (s0 : Int32) (M : am_M), rc 6 r0 x1 x2 x3 x4 x5 x6 x7 x8 s0 M = some (res, M') → AW u_Model_mayGet R_Model_mayGet 0 0 220 [(0, .ref r0), (1, .int x1), (2, .int x2), (3, .int x3), (4, .int x4)] [] M (fun r M2 => r = .inl (some (.int res)) ∧ M2 = M')) (ih_7 : ∀ (r0 : Nat) (x1 : Int32) (x2 : Int32) (x3 : Int32) (x4 : Int32) (x5 : Int32) (x6 : Int32) (x7 : Int32) (x8 : Int32) (s0 : Int32) (M : am_M), rc 7 r0 x1 x2 x3 x4 x5 x6 x7 x8 s0 M = some (res, M') → AW u_Model_mayGet R_Model_mayGet 0 0 241 [] [] M (fun r M2 => r = .inl (some (.int res)) ∧ M2 = M')) : ∀ (r0 : Nat) (x1 : Int32) (x2 : Int32) (x3 : Int32) (x4 : Int32) (x5 : Int32) (x6 : Int32) (x7 : Int32) (x8 : Int32) (s0 : Int32) (M : am_M), a_Model_mayGet_5 rc r0 x1 x2 x3 x4 x5 x6 x7 x8 s0 M = some (res, M') → AW u_Model_mayGet R_Model_mayGet 0 0 214 [(0, .ref r0), (1, .int x1), (2, .int x2), (3, .int x3), (4, .int x4), (5, .int x5), (6, .int x6)] [] M (fun r M2 => r = .inl (some (.int res)) ∧ M2 = M') := by
  intro r0 x1 x2 x3 x4 x5 x6 x7 x8 s0 M h
  unfold a_Model_mayGet_5 at h
  refine aw_iinc (v := (x6 + (1 : Int32))) (ls' := [(6, .int _), (0, .ref _), (1, .int _), (2, .int _), (3, .int _), (4, .int _), (5, .int _)]) d_Model_mayGet_214 rfl rfl (Nat.le_of_ble_eq_true rfl) rfl ?_
  refine aw_goto (tgt := 112) d_Model_mayGet_217 (by decide) ?_
  exact aw_pick [1, 2, 3, 4, 5, 6, 0] rfl (ih_2 _ _ _ _ _ _ _ _ _ _ _ h)
set_option maxHeartbeats 4000000 in
theorem s_Model_mayGet_6 {rc : Nat → Nat → Int32 → Int32 → Int32 → Int32 → Int32 → Int32 → Int32 → Int32 → Int32 → am_M → Option (Int32 × am_M)} {res : Int32} {M' : am_M} (ih_0 : ∀ (r0 : Nat) (x1 : Int32) (x2 : Int32) (x3 : Int32) (x4 : Int32) (x5 : Int32) (x6 : Int32) (x7 : Int32) (x8 : Int32) (s0 : Int32) (M : am_M), rc 0 r0 x1 x2 x3 x4 x5 x6 x7 x8 s0 M = some (res, M') → AW u_Model_mayGet R_Model_mayGet 0 0 10 [(0, .ref r0), (1, .int x1), (2, .int x2), (3, .int x3), (4, .int x4)] [] M (fun r M2 => r = .inl (some (.int res)) ∧ M2 = M')) (ih_1 : ∀ (r0 : Nat) (x1 : Int32) (x2 : Int32) (x3 : Int32) (x4 : Int32) (x5 : Int32) (x6 : Int32) (x7 : Int32) (x8 : Int32) (s0 : Int32) (M : am_M), rc 1 r0 x1 x2 x3 x4 x5 x6 x7 x8 s0 M = some (res, M') → AW u_Model_mayGet R_Model_mayGet 0 0 54 [(0, .ref r0), (1, .int x1), (2, .int x2), (3, .int x3), (4, .int x4), (5, .int x5), (6, .int x6)] [] M (fun r M2 => r = .inl (some (.int res)) ∧ M2 = M')) (ih_2 : ∀ (r0 : Nat) (x1 : Int32) (x2 : Int32) (x3 : Int32) (x4 : Int32) (x5 : Int32) (x6 : Int32) (x7 : Int32) (x8 : Int32) (s0 : Int32) (M : am_M), rc 2 r0 x1 x2 x3 x4 x5 x6 x7 x8 s0 M = some (res, M') → AW u_Model_mayGet R_Model_mayGet 0 0 112 [(0, .ref r0), (1, .int x1), (2, .int x2), (3, .int x3), (4, .int x4), (5, .int x5), (6, .int x6)] [] M (fun r M2 => r = .inl (some (.int res)) ∧ M2 = M')) (ih_3 : ∀ (r0 : Nat) (x1 : Int32) (x2 : Int32) (x3 : Int32) (x4 : Int32) (x5 : Int32) (x6 : Int32) (x7 : Int32) (x8 : Int32) (s0 : Int32) (M : am_M), rc 3 r0 x1 x2 x3 x4 x5 x6 x7 x8 s0 M = some (res, M') → AW u_Model_mayGet R_Model_mayGet 0 0 169 [(0, .ref r0), (1, .int x1), (2, .int x2), (3, .int x3), (4, .int x4), (5, .int x5), (6, .int x6), (7, .int x7)] [.int s0] M (fun r M2 => r = .inl (some (.int res)) ∧ M2 = M')) (ih_4 : ∀ (r0 : Nat) (x1 : Int32) (x2 : Int32) (x3 : Int32) (x4 : Int32) (x5 : Int32) (x6 : Int32) (x7 : Int32) (x8 : Int32) (s0 : Int32) (M : am_M), rc 4 r0 x1 x2 x3 x4 x5 x6 x7 x8 s0 M = some (res, M') → AW u_Model_mayGet R_Model_mayGet 0 0 200 [(0, .ref r0), (1, .int x1), (2, .int x2), (3, .int x3), (4, .int x4), (5, .int x5), (6, .int x6), (8, .int x8)] [.int s0] M (fun r M2 => r = .inl (some (.int res)) ∧ M2 = M')) (ih_5 : ∀ (r0 : Nat) (x1 : Int32) (x2 : Int32) (x3 : Int32) (x4 : Int32) (x5 : Int32) (x6 : Int32) (x7 : Int32) (x8 : Int32) (s0 : Int32) (M : am_M), rc 5 r0 x1 x2 x3 x4 x5 x6 x7 x8 s0 M = some (res, M') → AW u_Model_mayGet R_Model_mayGet 0 0 214 [(0, .ref r0), (1, .int x1), (2, .int x2), (3, .int x3), (4, .int x4), (5, .int x5), (6, .int x6)] [] M (fun r M2 => r = .inl (some (.int res)) ∧ M2 = M')) (ih_6 : ∀ (r0 : Nat) (x1 : Int32) (x2 : Int32) (x3 : Int32) (x4 : Int32) (x5 : Int32) (x6 : Int32) (x7 : Int32) (x8 : Int32) (s0 : Int32) (M : am_M), rc 6 r0 x1 x2 x3 x4 x5 x6 x7 x8 s0 M = some (res, M') → AW u_Model_mayGet R_Model_mayGet 0 0 220 [(0, .ref r0), (1, .int x1), (2, .int x2), (3, .int x3), (4, .int x4)] [] M (fun r M2 => r = .inl (some (.int res)) ∧ M2 = M')) (ih_7 : ∀ (r0 : Nat) (x1 : Int32) (x2 : Int32) (x3 : Int32) (x4 : Int32) (x5 : Int32) (x6 : Int32) (x7 : Int32) (x8 : Int32) (s0 : Int32) (M : am_M), rc 7 r0 x1 x2 x3 x4 x5 x6 x7 x8 s0 M = some (res, M') → AW u_Model_mayGet R_Model_mayGet 0 0 241 [] [] M (fun r M2 => r = .inl (some (.int res)) ∧ M2 = M')) : ∀ (r0 : Nat) (x1 : Int32) (x2 : Int32) (x3 : Int32) (x4 : Int32) (x5 : Int32) (x6 : Int32) (x7 : Int32) (x8 : Int32) (s0 : Int32) (M : am_M), a_Model_mayGet_6 rc r0 x1 x2 x3 x4 x5 x6 x7 x8 s0 M = some (res, M') → AW u_Model_mayGet R_Model_mayGet 0 0 220 [(0, .ref r0), (1, .int x1), (2, .int x2), (3, .int x3), (4, .int x4)] [] M (fun r M2 => r = .inl (some (.int res)) ∧ M2 = M') := by
  intro r0 x1 x2 x3 x4 x5 x6 x7 x8 s0 M h
  unfold a_Model_mayGet_6 at h
  refine aw_iinc (v := (x4 + (1 : Int32))) (ls' := [(4, .int _), (0, .ref _), (1, .int _), (2, .int _), (3, .int _)]) d_Model_mayGet_220 rfl rfl (Nat.le_of_ble_eq_true rfl) rfl ?_
  refine aw_goto (tgt := 10) d_Model_mayGet_223 (by decide) ?_
  exact aw_pick [1, 2, 3, 4, 0] rfl (ih_0 _ _ _ _ _ _ _ _ _ _ _ h)
set_option maxHeartbeats 4000000 in
theorem s_Model_mayGet_7 {rc : Nat → Nat → Int32 → Int32 → Int32 → Int32 → Int32 → Int32 → Int32 → Int32 → Int32 → am_M → Option (Int32 × am_M)} {res : Int32} {M' : am_M} (ih_0 : ∀ (r0 : Nat) (x1 : Int32) (x2 : Int32) (x3 : Int32) (x4 : Int32) (x5 : Int32) (x6 : Int32) (x7 : Int32) (x8 : Int32) (s0 : Int32) (M : am_M), rc 0 r0 x1 x2 x3 x4 x5 x6 x7 x8 s0 M = some (res, M') → AW u_Model_mayGet R_Model_mayGet 0 0 10 [(0, .ref r0), (1, .int x1), (2, .int x2), (3, .int x3), (4, .int x4)] [] M (fun r M2 => r = .inl (some (.int res)) ∧ M2 = M')) (ih_1 : ∀ (r0 : Nat) (x1 : Int32) (x2 : Int32) (x3 : Int32) (x4 : Int32) (x5 : Int32) (x6 : Int32) (x7 : Int32) (x8 : Int32) (s0 : Int32) (M : am_M), rc 1 r0 x1 x2 x3 x4 x5 x6 x7 x8 s0 M = some (res, M') → AW u_Model_mayGet R_Model_mayGet 0 0 54 [(0, .ref r0), (1, .int x1), (2, .int x2), (3, .int x3), (4, .int x4), (5, .int x5), (6, .int x6)] [] M (fun r M2 => r = .inl (some (.int res)) ∧ M2 = M')) (ih_2 : ∀ (r0 : Nat) (x1 : Int32) (x2 : Int32) (x3 : Int32) (x4 : Int32) (x5 : Int32) (x6 : Int32) (x7 : Int32) (x8 : Int32) (s0 : Int32) (M : am_M), rc 2 r0 x1 x2 x3 x4 x5 x6 x7 x8 s0 M = some (res, M') → AW u_Model_mayGet R_Model_mayGet 0 0 112 [(0, .ref r0), (1, .int x1), (2, .int x2), (3, .int x3), (4, .int x4), (5, .int x5), (6, .int x6)] [] M (fun r M2 => r = .inl (some (.int res)) ∧ M2 = M')) (ih_3 : ∀ (r0 : Nat) (x1 : Int32) (x2 : Int32) (x3 : Int32) (x4 : Int32) (x5 : Int32) (x6 : Int32) (x7 : Int32) (x8 : Int32) (s0 : Int32) (M : am_M), rc 3 r0 x1 x2 x3 x4 x5 x6 x7 x8 s0 M = some (res, M') → AW u_Model_mayGet R_Model_mayGet 0 0 169 [(0, .ref r0), (1, .int x1), (2, .int x2), (3, .int x3), (4, .int x4), (5, .int x5), (6, .int x6), (7, .int x7)] [.int s0] M (fun r M2 => r = .inl (some (.int res)) ∧ M2 = M')) (ih_4 : ∀ (r0 : Nat) (x1 : Int32) (x2 : Int32) (x3 : Int32) (x4 : Int32) (x5 : Int32) (x6 : Int32) (x7 : Int32) (x8 : Int32) (s0 : Int32) (M : am_M), rc 4 r0 x1 x2 x3 x4 x5 x6 x7 x8 s0 M = some (res, M') → AW u_Model_mayGet R_Model_mayGet 0 0 200 [(0, .ref r0), (1, .int x1), (2, .int x2), (3, .int x3), (4, .int x4), (5, .int x5), (6, .int x6), (8, .int x8)] [.int s0] M (fun r M2 => r = .inl (some (.int res)) ∧ M2 = M')) (ih_5 : ∀ (r0 : Nat) (x1 : Int32) (x2 : Int32) (x3 : Int32) (x4 : Int32) (x5 : Int32) (x6 : Int32) (x7 : Int32) (x8 : Int32) (s0 : Int32) (M : am_M), rc 5 r0 x1 x2 x3 x4 x5 x6 x7 x8 s0 M = some (res, M') → AW u_Model_mayGet R_Model_mayGet 0 0 214 [(0, .ref r0), (1, .int x1), (2, .int x2), (3, .int x3), (4, .int x4), (5, .int x5), (6, .int x6)] [] M (fun r M2 => r = .inl (some (.int res)) ∧ M2 = M')) (ih_6 : ∀ (r0 : Nat) (x1 : Int32) (x2 : Int32) (x3 : Int32) (x4 : Int32) (x5 : Int32) (x6 : Int32) (x7 : Int32) (x8 : Int32) (s0 : Int32) (M : am_M), rc 6 r0 x1 x2 x3 x4 x5 x6 x7 x8 s0 M = some (res, M') → AW u_Model_mayGet R_Model_mayGet 0 0 220 [(0, .ref r0), (1, .int x1), (2, .int x2), (3, .int x3), (4, .int x4)] [] M (fun r M2 => r = .inl (some (.int res)) ∧ M2 = M')) (ih_7 : ∀ (r0 : Nat) (x1 : Int32) (x2 : Int32) (x3 : Int32) (x4 : Int32) (x5 : Int32) (x6 : Int32) (x7 : Int32) (x8 : Int32) (s0 : Int32) (M : am_M), rc 7 r0 x1 x2 x3 x4 x5 x6 x7 x8 s0 M = some (res, M') → AW u_Model_mayGet R_Model_mayGet 0 0 241 [] [] M (fun r M2 => r = .inl (some (.int res)) ∧ M2 = M')) : ∀ (r0 : Nat) (x1 : Int32) (x2 : Int32) (x3 : Int32) (x4 : Int32) (x5 : Int32) (x6 : Int32) (x7 : Int32) (x8 : Int32) (s0 : Int32) (M : am_M), a_Model_mayGet_7 rc r0 x1 x2 x3 x4 x5 x6 x7 x8 s0 M = some (res, M') → AW u_Model_mayGet R_Model_mayGet 0 0 241 [] [] M (fun r M2 => r = .inl (some (.int res)) ∧ M2 = M') := by
  intro r0 x1 x2 x3 x4 x5 x6 x7 x8 s0 M h
  unfold a_Model_mayGet_7 at h
  refine aw_iconst (v := 1) d_Model_mayGet_241 (by decide) ?_
  refine aw_goto (tgt := 246) d_Model_mayGet_242 (by decide) ?_
  cases h
  exact aw_zreturn d_Model_mayGet_246 rfl (by decide) (Nat.le_of_ble_eq_true rfl) (Nat.le_of_ble_eq_true rfl) ⟨rfl, rfl⟩
theorem l_Model_mayGet {res : Int32} {M' : am_M} : ∀ F : Nat, (∀ (r0 : Nat) (x1 : Int32) (x2 : Int32) (x3 : Int32) (x4 : Int32) (x5 : Int32) (x6 : Int32) (x7 : Int32) (x8 : Int32) (s0 : Int32) (M : am_M), g_Model_mayGet F 0 r0 x1 x2 x3 x4 x5 x6 x7 x8 s0 M = some (res, M') → AW u_Model_mayGet R_Model_mayGet 0 0 10 [(0, .ref r0), (1, .int x1), (2, .int x2), (3, .int x3), (4, .int x4)] [] M (fun r M2 => r = .inl (some (.int res)) ∧ M2 = M')) ∧ (∀ (r0 : Nat) (x1 : Int32) (x2 : Int32) (x3 : Int32) (x4 : Int32) (x5 : Int32) (x6 : Int32) (x7 : Int32) (x8 : Int32) (s0 : Int32) (M : am_M), g_Model_mayGet F 1 r0 x1 x2 x3 x4 x5 x6 x7 x8 s0 M = some (res, M') → AW u_Model_mayGet R_Model_mayGet 0 0 54 [(0, .ref r0), (1, .int x1), (2, .int x2), (3, .int x3), (4, .int x4), (5, .int x5), (6, .int x6)] [] M (fun r M2 => r = .inl (some (.int res)) ∧ M2 = M')) ∧ (∀ (r0 : Nat) (x1 : Int32) (x2 : Int32) (x3 : Int32) (x4 : Int32) (x5 : Int32) (x6 : Int32) (x7 : Int32) (x8 : Int32) (s0 : Int32) (M : am_M), g_Model_mayGet F 2 r0 x1 x2 x3 x4 x5 x6 x7 x8 s0 M = some (res, M') → AW u_Model_mayGet R_Model_mayGet 0 0 112 [(0, .ref r0), (1, .int x1), (2, .int x2), (3, .int x3), (4, .int x4), (5, .int x5), (6, .int x6)] [] M (fun r M2 => r = .inl (some (.int res)) ∧ M2 = M')) ∧ (∀ (r0 : Nat) (x1 : Int32) (x2 : Int32) (x3 : Int32) (x4 : Int32) (x5 : Int32) (x6 : Int32) (x7 : Int32) (x8 : Int32) (s0 : Int32) (M : am_M), g_Model_mayGet F 3 r0 x1 x2 x3 x4 x5 x6 x7 x8 s0 M = some (res, M') → AW u_Model_mayGet R_Model_mayGet 0 0 169 [(0, .ref r0), (1, .int x1), (2, .int x2), (3, .int x3), (4, .int x4), (5, .int x5), (6, .int x6), (7, .int x7)] [.int s0] M (fun r M2 => r = .inl (some (.int res)) ∧ M2 = M')) ∧ (∀ (r0 : Nat) (x1 : Int32) (x2 : Int32) (x3 : Int32) (x4 : Int32) (x5 : Int32) (x6 : Int32) (x7 : Int32) (x8 : Int32) (s0 : Int32) (M : am_M), g_Model_mayGet F 4 r0 x1 x2 x3 x4 x5 x6 x7 x8 s0 M = some (res, M') → AW u_Model_mayGet R_Model_mayGet 0 0 200 [(0, .ref r0), (1, .int x1), (2, .int x2), (3, .int x3), (4, .int x4), (5, .int x5), (6, .int x6), (8, .int x8)] [.int s0] M (fun r M2 => r = .inl (some (.int res)) ∧ M2 = M')) ∧ (∀ (r0 : Nat) (x1 : Int32) (x2 : Int32) (x3 : Int32) (x4 : Int32) (x5 : Int32) (x6 : Int32) (x7 : Int32) (x8 : Int32) (s0 : Int32) (M : am_M), g_Model_mayGet F 5 r0 x1 x2 x3 x4 x5 x6 x7 x8 s0 M = some (res, M') → AW u_Model_mayGet R_Model_mayGet 0 0 214 [(0, .ref r0), (1, .int x1), (2, .int x2), (3, .int x3), (4, .int x4), (5, .int x5), (6, .int x6)] [] M (fun r M2 => r = .inl (some (.int res)) ∧ M2 = M')) ∧ (∀ (r0 : Nat) (x1 : Int32) (x2 : Int32) (x3 : Int32) (x4 : Int32) (x5 : Int32) (x6 : Int32) (x7 : Int32) (x8 : Int32) (s0 : Int32) (M : am_M), g_Model_mayGet F 6 r0 x1 x2 x3 x4 x5 x6 x7 x8 s0 M = some (res, M') → AW u_Model_mayGet R_Model_mayGet 0 0 220 [(0, .ref r0), (1, .int x1), (2, .int x2), (3, .int x3), (4, .int x4)] [] M (fun r M2 => r = .inl (some (.int res)) ∧ M2 = M')) ∧ (∀ (r0 : Nat) (x1 : Int32) (x2 : Int32) (x3 : Int32) (x4 : Int32) (x5 : Int32) (x6 : Int32) (x7 : Int32) (x8 : Int32) (s0 : Int32) (M : am_M), g_Model_mayGet F 7 r0 x1 x2 x3 x4 x5 x6 x7 x8 s0 M = some (res, M') → AW u_Model_mayGet R_Model_mayGet 0 0 241 [] [] M (fun r M2 => r = .inl (some (.int res)) ∧ M2 = M')) := by
  intro F
  induction F with
  | zero => exact ⟨fun _ _ _ _ _ _ _ _ _ _ _  h => (by cases h), fun _ _ _ _ _ _ _ _ _ _ _  h => (by cases h), fun _ _ _ _ _ _ _ _ _ _ _  h => (by cases h), fun _ _ _ _ _ _ _ _ _ _ _  h => (by cases h), fun _ _ _ _ _ _ _ _ _ _ _  h => (by cases h), fun _ _ _ _ _ _ _ _ _ _ _  h => (by cases h), fun _ _ _ _ _ _ _ _ _ _ _  h => (by cases h), fun _ _ _ _ _ _ _ _ _ _ _  h => (by cases h)⟩
  | succ F ih =>
    obtain ⟨ih0, ih1, ih2, ih3, ih4, ih5, ih6, ih7⟩ := ih
    exact ⟨s_Model_mayGet_0 ih0 ih1 ih2 ih3 ih4 ih5 ih6 ih7, s_Model_mayGet_1 ih0 ih1 ih2 ih3 ih4 ih5 ih6 ih7, s_Model_mayGet_2 ih0 ih1 ih2 ih3 ih4 ih5 ih6 ih7, s_Model_mayGet_3 ih0 ih1 ih2 ih3 ih4 ih5 ih6 ih7, s_Model_mayGet_4 ih0 ih1 ih2 ih3 ih4 ih5 ih6 ih7, s_Model_mayGet_5 ih0 ih1 ih2 ih3 ih4 ih5 ih6 ih7, s_Model_mayGet_6 ih0 ih1 ih2 ih3 ih4 ih5 ih6 ih7, s_Model_mayGet_7 ih0 ih1 ih2 ih3 ih4 ih5 ih6 ih7⟩
set_option maxHeartbeats 4000000 in
theorem mt_Model_mayGet {M : am_M} {a0 : Nat} {a1 : Int32} {a2 : Int32} {res : Int32} {M' : am_M} (h : f_Model_mayGet M a0 a1 a2 = some (res, M')) : AMet y_Model_mayGet u_Model_mayGet R_Model_mayGet [.ref a0, .int a1, .int a2] M (fun r M2 => r = .inl (some (.int res)) ∧ M2 = M') := by
  refine am_met (by decide +kernel) w_Model_mayGet rfl rfl (Nat.le_of_ble_eq_true rfl) ?_
  show AW u_Model_mayGet R_Model_mayGet 0 0 0 [(0, .ref a0), (1, .int a1), (2, .int a2)] [] M (fun r M2 => r = .inl (some (.int res)) ∧ M2 = M')
  have ih_0 := (l_Model_mayGet (res := res) (M' := M') 1000000000).1
  have ih_1 := (l_Model_mayGet (res := res) (M' := M') 1000000000).2.1
  have ih_2 := (l_Model_mayGet (res := res) (M' := M') 1000000000).2.2.1
  have ih_3 := (l_Model_mayGet (res := res) (M' := M') 1000000000).2.2.2.1
  have ih_4 := (l_Model_mayGet (res := res) (M' := M') 1000000000).2.2.2.2.1
  have ih_5 := (l_Model_mayGet (res := res) (M' := M') 1000000000).2.2.2.2.2.1
  have ih_6 := (l_Model_mayGet (res := res) (M' := M') 1000000000).2.2.2.2.2.2.1
  have ih_7 := (l_Model_mayGet (res := res) (M' := M') 1000000000).2.2.2.2.2.2.2
  unfold f_Model_mayGet at h
  unfold e_Model_mayGet at h
  generalize g_Model_mayGet 1000000000 = rc at h ih_0 ih_1 ih_2 ih_3 ih_4 ih_5 ih_6 ih_7
  refine aw_aload_n d_Model_mayGet_0 rfl rfl ?_
  obtain ⟨t1, e_t1, h⟩ := q_bind h
  refine aw_gtr d_Model_mayGet_1 fl_Model_57 (Or.inr ⟨_, rfl⟩) e_t1 ?_
  refine aw_iload_n d_Model_mayGet_4 rfl rfl ?_
  obtain ⟨t5, e_t5, h⟩ := q_bind h
  refine aw_ldi d_Model_mayGet_5 e_t5 ?_
  refine aw_istore_n (ls' := [(3, .int _), (0, .ref _), (1, .int _), (2, .int _)]) d_Model_mayGet_6 rfl (Nat.le_of_ble_eq_true rfl) rfl ?_
  refine aw_iconst (v := 0) d_Model_mayGet_7 (by decide) ?_
  refine aw_istore (ls' := [(4, .int _), (3, .int _), (0, .ref _), (1, .int _), (2, .int _)]) d_Model_mayGet_8 (Nat.le_of_ble_eq_true rfl) rfl ?_
  exact aw_pick [2, 3, 4, 1, 0] rfl (ih_0 _ _ _ _ _ _ _ _ _ _ _ h)
def y_Model_tables : MethodName := ⟨"CrewOfficeModel", "tables", "()V"⟩
def u_Model_tables : am_U := ("CrewOfficeModel", "tables", prog_12_method_46_code, 7, none, [])
def R_Model_tables : Room := { frames := 7, cells := 0, slots := 0, locals := 167 }
theorem d_Model_tables_0 : decode u_Model_tables.2.2.1 0 = .ok (.iconst 1, 1) := by decide +kernel
theorem d_Model_tables_1 : decode u_Model_tables.2.2.1 1 = .ok (.aload_n 0, 1) := by decide +kernel
theorem d_Model_tables_2 : decode u_Model_tables.2.2.1 2 = .ok (.getfield 255, 3) := by decide +kernel
theorem d_Model_tables_5 : decode u_Model_tables.2.2.1 5 = .ok (.ishl, 1) := by decide +kernel
theorem d_Model_tables_6 : decode u_Model_tables.2.2.1 6 = .ok (.istore_n 1, 1) := by decide +kernel
theorem d_Model_tables_7 : decode u_Model_tables.2.2.1 7 = .ok (.iconst 0, 1) := by decide +kernel
theorem d_Model_tables_8 : decode u_Model_tables.2.2.1 8 = .ok (.istore_n 2, 1) := by decide +kernel
theorem d_Model_tables_9 : decode u_Model_tables.2.2.1 9 = .ok (.iload_n 2, 1) := by decide +kernel
theorem d_Model_tables_10 : decode u_Model_tables.2.2.1 10 = .ok (.iload_n 1, 1) := by decide +kernel
theorem d_Model_tables_11 : decode u_Model_tables.2.2.1 11 = .ok (.if_icmp .ge 33, 3) := by decide +kernel
theorem d_Model_tables_14 : decode u_Model_tables.2.2.1 14 = .ok (.aload_n 0, 1) := by decide +kernel
theorem d_Model_tables_15 : decode u_Model_tables.2.2.1 15 = .ok (.getfield 152, 3) := by decide +kernel
theorem d_Model_tables_18 : decode u_Model_tables.2.2.1 18 = .ok (.sipush 4096, 3) := by decide +kernel
theorem d_Model_tables_21 : decode u_Model_tables.2.2.1 21 = .ok (.aload_n 0, 1) := by decide +kernel
theorem d_Model_tables_22 : decode u_Model_tables.2.2.1 22 = .ok (.getfield 258, 3) := by decide +kernel
theorem d_Model_tables_25 : decode u_Model_tables.2.2.1 25 = .ok (.imul, 1) := by decide +kernel
theorem d_Model_tables_26 : decode u_Model_tables.2.2.1 26 = .ok (.iload_n 2, 1) := by decide +kernel
theorem d_Model_tables_27 : decode u_Model_tables.2.2.1 27 = .ok (.iadd, 1) := by decide +kernel
theorem d_Model_tables_28 : decode u_Model_tables.2.2.1 28 = .ok (.iload_n 2, 1) := by decide +kernel
theorem d_Model_tables_29 : decode u_Model_tables.2.2.1 29 = .ok (.ifCond .ne 7, 3) := by decide +kernel
theorem d_Model_tables_32 : decode u_Model_tables.2.2.1 32 = .ok (.iconst 1, 1) := by decide +kernel
theorem d_Model_tables_33 : decode u_Model_tables.2.2.1 33 = .ok (.goto 4, 3) := by decide +kernel
theorem d_Model_tables_36 : decode u_Model_tables.2.2.1 36 = .ok (.iconst 0, 1) := by decide +kernel
theorem d_Model_tables_37 : decode u_Model_tables.2.2.1 37 = .ok (.bastore, 1) := by decide +kernel
theorem d_Model_tables_38 : decode u_Model_tables.2.2.1 38 = .ok (.iinc 2 1, 3) := by decide +kernel
theorem d_Model_tables_41 : decode u_Model_tables.2.2.1 41 = .ok (.goto (-32), 3) := by decide +kernel
theorem d_Model_tables_44 : decode u_Model_tables.2.2.1 44 = .ok (.aload_n 0, 1) := by decide +kernel
theorem d_Model_tables_45 : decode u_Model_tables.2.2.1 45 = .ok (.getfield 258, 3) := by decide +kernel
theorem d_Model_tables_48 : decode u_Model_tables.2.2.1 48 = .ok (.iconst 1, 1) := by decide +kernel
theorem d_Model_tables_49 : decode u_Model_tables.2.2.1 49 = .ok (.isub, 1) := by decide +kernel
theorem d_Model_tables_50 : decode u_Model_tables.2.2.1 50 = .ok (.istore_n 2, 1) := by decide +kernel
theorem d_Model_tables_51 : decode u_Model_tables.2.2.1 51 = .ok (.iload_n 2, 1) := by decide +kernel
theorem d_Model_tables_52 : decode u_Model_tables.2.2.1 52 = .ok (.ifCond .lt 157, 3) := by decide +kernel
theorem d_Model_tables_55 : decode u_Model_tables.2.2.1 55 = .ok (.iconst 0, 1) := by decide +kernel
theorem d_Model_tables_56 : decode u_Model_tables.2.2.1 56 = .ok (.istore_n 3, 1) := by decide +kernel
theorem d_Model_tables_57 : decode u_Model_tables.2.2.1 57 = .ok (.iload_n 3, 1) := by decide +kernel
theorem d_Model_tables_58 : decode u_Model_tables.2.2.1 58 = .ok (.iload_n 1, 1) := by decide +kernel
theorem d_Model_tables_59 : decode u_Model_tables.2.2.1 59 = .ok (.if_icmp .ge 32, 3) := by decide +kernel
theorem d_Model_tables_62 : decode u_Model_tables.2.2.1 62 = .ok (.aload_n 0, 1) := by decide +kernel
theorem d_Model_tables_63 : decode u_Model_tables.2.2.1 63 = .ok (.getfield 149, 3) := by decide +kernel
theorem d_Model_tables_66 : decode u_Model_tables.2.2.1 66 = .ok (.sipush 4096, 3) := by decide +kernel
theorem d_Model_tables_69 : decode u_Model_tables.2.2.1 69 = .ok (.iload_n 2, 1) := by decide +kernel
theorem d_Model_tables_70 : decode u_Model_tables.2.2.1 70 = .ok (.imul, 1) := by decide +kernel
theorem d_Model_tables_71 : decode u_Model_tables.2.2.1 71 = .ok (.iload_n 3, 1) := by decide +kernel
theorem d_Model_tables_72 : decode u_Model_tables.2.2.1 72 = .ok (.iadd, 1) := by decide +kernel
theorem d_Model_tables_73 : decode u_Model_tables.2.2.1 73 = .ok (.aload_n 0, 1) := by decide +kernel
theorem d_Model_tables_74 : decode u_Model_tables.2.2.1 74 = .ok (.aload_n 0, 1) := by decide +kernel
theorem d_Model_tables_75 : decode u_Model_tables.2.2.1 75 = .ok (.getfield 146, 3) := by decide +kernel
theorem d_Model_tables_78 : decode u_Model_tables.2.2.1 78 = .ok (.iload_n 2, 1) := by decide +kernel
theorem d_Model_tables_79 : decode u_Model_tables.2.2.1 79 = .ok (.iaload, 1) := by decide +kernel
theorem d_Model_tables_80 : decode u_Model_tables.2.2.1 80 = .ok (.iload_n 3, 1) := by decide +kernel
theorem d_Model_tables_81 : decode u_Model_tables.2.2.1 81 = .ok (.invokevirtual 261, 3) := by decide +kernel
theorem d_Model_tables_84 : decode u_Model_tables.2.2.1 84 = .ok (.bastore, 1) := by decide +kernel
theorem d_Model_tables_85 : decode u_Model_tables.2.2.1 85 = .ok (.iinc 3 1, 3) := by decide +kernel
theorem d_Model_tables_88 : decode u_Model_tables.2.2.1 88 = .ok (.goto (-31), 3) := by decide +kernel
theorem d_Model_tables_91 : decode u_Model_tables.2.2.1 91 = .ok (.iconst 0, 1) := by decide +kernel
theorem d_Model_tables_92 : decode u_Model_tables.2.2.1 92 = .ok (.istore_n 3, 1) := by decide +kernel
theorem d_Model_tables_93 : decode u_Model_tables.2.2.1 93 = .ok (.iload_n 3, 1) := by decide +kernel
theorem d_Model_tables_94 : decode u_Model_tables.2.2.1 94 = .ok (.iload_n 1, 1) := by decide +kernel
theorem d_Model_tables_95 : decode u_Model_tables.2.2.1 95 = .ok (.if_icmp .ge 108, 3) := by decide +kernel
theorem d_Model_tables_98 : decode u_Model_tables.2.2.1 98 = .ok (.iconst 0, 1) := by decide +kernel
theorem d_Model_tables_99 : decode u_Model_tables.2.2.1 99 = .ok (.istore 4, 2) := by decide +kernel
theorem d_Model_tables_101 : decode u_Model_tables.2.2.1 101 = .ok (.iload_n 3, 1) := by decide +kernel
theorem d_Model_tables_102 : decode u_Model_tables.2.2.1 102 = .ok (.istore 5, 2) := by decide +kernel
theorem d_Model_tables_104 : decode u_Model_tables.2.2.1 104 = .ok (.iconst 1, 1) := by decide +kernel
theorem d_Model_tables_105 : decode u_Model_tables.2.2.1 105 = .ok (.istore 6, 2) := by decide +kernel
theorem d_Model_tables_107 : decode u_Model_tables.2.2.1 107 = .ok (.iload 6, 2) := by decide +kernel
theorem d_Model_tables_109 : decode u_Model_tables.2.2.1 109 = .ok (.ifCond .eq 74, 3) := by decide +kernel
theorem d_Model_tables_112 : decode u_Model_tables.2.2.1 112 = .ok (.iload 4, 2) := by decide +kernel
theorem d_Model_tables_114 : decode u_Model_tables.2.2.1 114 = .ok (.ifCond .ne 69, 3) := by decide +kernel
theorem d_Model_tables_117 : decode u_Model_tables.2.2.1 117 = .ok (.aload_n 0, 1) := by decide +kernel
theorem d_Model_tables_118 : decode u_Model_tables.2.2.1 118 = .ok (.getfield 149, 3) := by decide +kernel
theorem d_Model_tables_121 : decode u_Model_tables.2.2.1 121 = .ok (.sipush 4096, 3) := by decide +kernel
theorem d_Model_tables_124 : decode u_Model_tables.2.2.1 124 = .ok (.iload_n 2, 1) := by decide +kernel
theorem d_Model_tables_125 : decode u_Model_tables.2.2.1 125 = .ok (.imul, 1) := by decide +kernel
theorem d_Model_tables_126 : decode u_Model_tables.2.2.1 126 = .ok (.iload 5, 2) := by decide +kernel
theorem d_Model_tables_128 : decode u_Model_tables.2.2.1 128 = .ok (.iadd, 1) := by decide +kernel
theorem d_Model_tables_129 : decode u_Model_tables.2.2.1 129 = .ok (.baload, 1) := by decide +kernel
theorem d_Model_tables_130 : decode u_Model_tables.2.2.1 130 = .ok (.ifCond .eq 27, 3) := by decide +kernel
theorem d_Model_tables_133 : decode u_Model_tables.2.2.1 133 = .ok (.aload_n 0, 1) := by decide +kernel
theorem d_Model_tables_134 : decode u_Model_tables.2.2.1 134 = .ok (.getfield 152, 3) := by decide +kernel
theorem d_Model_tables_137 : decode u_Model_tables.2.2.1 137 = .ok (.sipush 4096, 3) := by decide +kernel
theorem d_Model_tables_140 : decode u_Model_tables.2.2.1 140 = .ok (.iload_n 2, 1) := by decide +kernel
theorem d_Model_tables_141 : decode u_Model_tables.2.2.1 141 = .ok (.iconst 1, 1) := by decide +kernel
theorem d_Model_tables_142 : decode u_Model_tables.2.2.1 142 = .ok (.iadd, 1) := by decide +kernel
theorem d_Model_tables_143 : decode u_Model_tables.2.2.1 143 = .ok (.imul, 1) := by decide +kernel
theorem d_Model_tables_144 : decode u_Model_tables.2.2.1 144 = .ok (.iload_n 3, 1) := by decide +kernel
theorem d_Model_tables_145 : decode u_Model_tables.2.2.1 145 = .ok (.iload 5, 2) := by decide +kernel
theorem d_Model_tables_147 : decode u_Model_tables.2.2.1 147 = .ok (.ixor, 1) := by decide +kernel
theorem d_Model_tables_148 : decode u_Model_tables.2.2.1 148 = .ok (.iadd, 1) := by decide +kernel
theorem d_Model_tables_149 : decode u_Model_tables.2.2.1 149 = .ok (.baload, 1) := by decide +kernel
theorem d_Model_tables_150 : decode u_Model_tables.2.2.1 150 = .ok (.ifCond .eq 7, 3) := by decide +kernel
theorem d_Model_tables_153 : decode u_Model_tables.2.2.1 153 = .ok (.iconst 1, 1) := by decide +kernel
theorem d_Model_tables_154 : decode u_Model_tables.2.2.1 154 = .ok (.goto 4, 3) := by decide +kernel
theorem d_Model_tables_157 : decode u_Model_tables.2.2.1 157 = .ok (.iconst 0, 1) := by decide +kernel
theorem d_Model_tables_158 : decode u_Model_tables.2.2.1 158 = .ok (.istore 4, 2) := by decide +kernel
theorem d_Model_tables_160 : decode u_Model_tables.2.2.1 160 = .ok (.iload 5, 2) := by decide +kernel
theorem d_Model_tables_162 : decode u_Model_tables.2.2.1 162 = .ok (.ifCond .le 7, 3) := by decide +kernel
theorem d_Model_tables_165 : decode u_Model_tables.2.2.1 165 = .ok (.iconst 1, 1) := by decide +kernel
theorem d_Model_tables_166 : decode u_Model_tables.2.2.1 166 = .ok (.goto 4, 3) := by decide +kernel
theorem d_Model_tables_169 : decode u_Model_tables.2.2.1 169 = .ok (.iconst 0, 1) := by decide +kernel
theorem d_Model_tables_170 : decode u_Model_tables.2.2.1 170 = .ok (.istore 6, 2) := by decide +kernel
theorem d_Model_tables_172 : decode u_Model_tables.2.2.1 172 = .ok (.iload 5, 2) := by decide +kernel
theorem d_Model_tables_174 : decode u_Model_tables.2.2.1 174 = .ok (.iconst 1, 1) := by decide +kernel
theorem d_Model_tables_175 : decode u_Model_tables.2.2.1 175 = .ok (.isub, 1) := by decide +kernel
theorem d_Model_tables_176 : decode u_Model_tables.2.2.1 176 = .ok (.iload_n 3, 1) := by decide +kernel
theorem d_Model_tables_177 : decode u_Model_tables.2.2.1 177 = .ok (.iand, 1) := by decide +kernel
theorem d_Model_tables_178 : decode u_Model_tables.2.2.1 178 = .ok (.istore 5, 2) := by decide +kernel
theorem d_Model_tables_180 : decode u_Model_tables.2.2.1 180 = .ok (.goto (-73), 3) := by decide +kernel
theorem d_Model_tables_183 : decode u_Model_tables.2.2.1 183 = .ok (.aload_n 0, 1) := by decide +kernel
theorem d_Model_tables_184 : decode u_Model_tables.2.2.1 184 = .ok (.getfield 152, 3) := by decide +kernel
theorem d_Model_tables_187 : decode u_Model_tables.2.2.1 187 = .ok (.sipush 4096, 3) := by decide +kernel
theorem d_Model_tables_190 : decode u_Model_tables.2.2.1 190 = .ok (.iload_n 2, 1) := by decide +kernel
theorem d_Model_tables_191 : decode u_Model_tables.2.2.1 191 = .ok (.imul, 1) := by decide +kernel
theorem d_Model_tables_192 : decode u_Model_tables.2.2.1 192 = .ok (.iload_n 3, 1) := by decide +kernel
theorem d_Model_tables_193 : decode u_Model_tables.2.2.1 193 = .ok (.iadd, 1) := by decide +kernel
theorem d_Model_tables_194 : decode u_Model_tables.2.2.1 194 = .ok (.iload 4, 2) := by decide +kernel
theorem d_Model_tables_196 : decode u_Model_tables.2.2.1 196 = .ok (.bastore, 1) := by decide +kernel
theorem d_Model_tables_197 : decode u_Model_tables.2.2.1 197 = .ok (.iinc 3 1, 3) := by decide +kernel
theorem d_Model_tables_200 : decode u_Model_tables.2.2.1 200 = .ok (.goto (-107), 3) := by decide +kernel
theorem d_Model_tables_203 : decode u_Model_tables.2.2.1 203 = .ok (.iinc 2 (-1), 3) := by decide +kernel
theorem d_Model_tables_206 : decode u_Model_tables.2.2.1 206 = .ok (.goto (-155), 3) := by decide +kernel
theorem d_Model_tables_209 : decode u_Model_tables.2.2.1 209 = .ok (.return_, 1) := by decide +kernel
theorem w_Model_tables : am_code y_Model_tables u_Model_tables ∈ am_ws := am_mem (List.mem_of_getElem? (i := 1339) (by decide +kernel)) rfl
def a_Model_tables_0 (rc : Nat → Nat → Int32 → Int32 → Int32 → Int32 → Int32 → Int32 → Int32 → Int32 → Nat → am_M → Option (Unit × am_M)) (r0 : Nat) (x1 : Int32) (x2 : Int32) (x3 : Int32) (x4 : Int32) (x5 : Int32) (x6 : Int32) (s0 : Int32) (s1 : Int32) (sr2 : Nat) (M : am_M) : Option (Unit × am_M) := if x1 ≤ x2 then ((q_gti M r0 10 51).bind (fun t45 => rc 2 r0 x1 (t45 - (1 : Int32)) 0 0 0 0 0 0 0 M)) else ((q_gtr M r0 10 53).bind (fun t15 => (q_gti M r0 10 51).bind (fun t22 => if x2 = 0 then (rc 1 r0 x1 x2 0 0 0 0 (1 : Int32) (((4096 : Int32) * t22) + x2) t15 M) else (rc 1 r0 x1 x2 0 0 0 0 (0 : Int32) (((4096 : Int32) * t22) + x2) t15 M))))
def a_Model_tables_1 (rc : Nat → Nat → Int32 → Int32 → Int32 → Int32 → Int32 → Int32 → Int32 → Int32 → Nat → am_M → Option (Unit × am_M)) (r0 : Nat) (x1 : Int32) (x2 : Int32) (x3 : Int32) (x4 : Int32) (x5 : Int32) (x6 : Int32) (s0 : Int32) (s1 : Int32) (sr2 : Nat) (M : am_M) : Option (Unit × am_M) := (q_stz M sr2 s1 s0).bind (fun M37 => rc 0 r0 x1 (x2 + (1 : Int32)) 0 0 0 0 0 0 0 M37)
def a_Model_tables_2 (rc : Nat → Nat → Int32 → Int32 → Int32 → Int32 → Int32 → Int32 → Int32 → Int32 → Nat → am_M → Option (Unit × am_M)) (r0 : Nat) (x1 : Int32) (x2 : Int32) (x3 : Int32) (x4 : Int32) (x5 : Int32) (x6 : Int32) (s0 : Int32) (s1 : Int32) (sr2 : Nat) (M : am_M) : Option (Unit × am_M) := if x2 < 0 then (some ((), M)) else (rc 3 r0 x1 x2 (0 : Int32) 0 0 0 0 0 0 M)
def a_Model_tables_3 (rc : Nat → Nat → Int32 → Int32 → Int32 → Int32 → Int32 → Int32 → Int32 → Int32 → Nat → am_M → Option (Unit × am_M)) (r0 : Nat) (x1 : Int32) (x2 : Int32) (x3 : Int32) (x4 : Int32) (x5 : Int32) (x6 : Int32) (s0 : Int32) (s1 : Int32) (sr2 : Nat) (M : am_M) : Option (Unit × am_M) := if x1 ≤ x3 then (rc 4 r0 x1 x2 (0 : Int32) 0 0 0 0 0 0 M) else ((q_gtr M r0 10 52).bind (fun t63 => (q_gtr M r0 10 50).bind (fun t75 => (q_ldi M t75 x2).bind (fun t79 => (q_ob M r0 10).bind (fun o81 => (f_Model_mayGet M r0 t79 x3).bind (fun p81 => (q_stz p81.2 t63 (((4096 : Int32) * x2) + x3) p81.1).bind (fun M84 => rc 3 r0 x1 x2 (x3 + (1 : Int32)) 0 0 0 0 0 0 M84)))))))
def a_Model_tables_4 (rc : Nat → Nat → Int32 → Int32 → Int32 → Int32 → Int32 → Int32 → Int32 → Int32 → Nat → am_M → Option (Unit × am_M)) (r0 : Nat) (x1 : Int32) (x2 : Int32) (x3 : Int32) (x4 : Int32) (x5 : Int32) (x6 : Int32) (s0 : Int32) (s1 : Int32) (sr2 : Nat) (M : am_M) : Option (Unit × am_M) := if x1 ≤ x3 then (rc 2 r0 x1 (x2 + (-1 : Int32)) 0 0 0 0 0 0 0 M) else (rc 5 r0 x1 x2 x3 (0 : Int32) x3 (1 : Int32) 0 0 0 M)
def a_Model_tables_5 (rc : Nat → Nat → Int32 → Int32 → Int32 → Int32 → Int32 → Int32 → Int32 → Int32 → Nat → am_M → Option (Unit × am_M)) (r0 : Nat) (x1 : Int32) (x2 : Int32) (x3 : Int32) (x4 : Int32) (x5 : Int32) (x6 : Int32) (s0 : Int32) (s1 : Int32) (sr2 : Nat) (M : am_M) : Option (Unit × am_M) := if x6 = 0 then (rc 9 r0 x1 x2 x3 x4 0 0 0 0 0 M) else (if x4 = 0 then ((q_gtr M r0 10 52).bind (fun t118 => (q_ldz M t118 (((4096 : Int32) * x2) + x5)).bind (fun t129 => if t129 = 0 then (rc 6 r0 x1 x2 x3 0 x5 0 0 0 0 M) else ((q_gtr M r0 10 53).bind (fun t134 => (q_ldz M t134 (((4096 : Int32) * (x2 + (1 : Int32))) + (x3 ^^^ x5))).bind (fun t149 => if t149 = 0 then (rc 6 r0 x1 x2 x3 0 x5 0 0 0 0 M) else (rc 7 r0 x1 x2 x3 0 x5 0 (1 : Int32) 0 0 M))))))) else (rc 9 r0 x1 x2 x3 x4 0 0 0 0 0 M))
def a_Model_tables_6 (rc : Nat → Nat → Int32 → Int32 → Int32 → Int32 → Int32 → Int32 → Int32 → Int32 → Nat → am_M → Option (Unit × am_M)) (r0 : Nat) (x1 : Int32) (x2 : Int32) (x3 : Int32) (x4 : Int32) (x5 : Int32) (x6 : Int32) (s0 : Int32) (s1 : Int32) (sr2 : Nat) (M : am_M) : Option (Unit × am_M) := rc 7 r0 x1 x2 x3 0 x5 0 (0 : Int32) 0 0 M
def a_Model_tables_7 (rc : Nat → Nat → Int32 → Int32 → Int32 → Int32 → Int32 → Int32 → Int32 → Int32 → Nat → am_M → Option (Unit × am_M)) (r0 : Nat) (x1 : Int32) (x2 : Int32) (x3 : Int32) (x4 : Int32) (x5 : Int32) (x6 : Int32) (s0 : Int32) (s1 : Int32) (sr2 : Nat) (M : am_M) : Option (Unit × am_M) := if x5 ≤ 0 then (rc 8 r0 x1 x2 x3 s0 x5 0 (0 : Int32) 0 0 M) else (rc 8 r0 x1 x2 x3 s0 x5 0 (1 : Int32) 0 0 M)
def a_Model_tables_8 (rc : Nat → Nat → Int32 → Int32 → Int32 → Int32 → Int32 → Int32 → Int32 → Int32 → Nat → am_M → Option (Unit × am_M)) (r0 : Nat) (x1 : Int32) (x2 : Int32) (x3 : Int32) (x4 : Int32) (x5 : Int32) (x6 : Int32) (s0 : Int32) (s1 : Int32) (sr2 : Nat) (M : am_M) : Option (Unit × am_M) := rc 5 r0 x1 x2 x3 x4 ((x5 - (1 : Int32)) &&& x3) s0 0 0 0 M
def a_Model_tables_9 (rc : Nat → Nat → Int32 → Int32 → Int32 → Int32 → Int32 → Int32 → Int32 → Int32 → Nat → am_M → Option (Unit × am_M)) (r0 : Nat) (x1 : Int32) (x2 : Int32) (x3 : Int32) (x4 : Int32) (x5 : Int32) (x6 : Int32) (s0 : Int32) (s1 : Int32) (sr2 : Nat) (M : am_M) : Option (Unit × am_M) := (q_gtr M r0 10 53).bind (fun t184 => (q_stz M t184 (((4096 : Int32) * x2) + x3) x4).bind (fun M196 => rc 4 r0 x1 x2 (x3 + (1 : Int32)) 0 0 0 0 0 0 M196))
def g_Model_tables : Nat → Nat → Nat → Int32 → Int32 → Int32 → Int32 → Int32 → Int32 → Int32 → Int32 → Nat → am_M → Option (Unit × am_M)
  | 0, _, _, _, _, _, _, _, _, _, _, _, _ => none
  | F + 1, 0, r0, x1, x2, x3, x4, x5, x6, s0, s1, sr2, M => a_Model_tables_0 (g_Model_tables F) r0 x1 x2 x3 x4 x5 x6 s0 s1 sr2 M
  | F + 1, 1, r0, x1, x2, x3, x4, x5, x6, s0, s1, sr2, M => a_Model_tables_1 (g_Model_tables F) r0 x1 x2 x3 x4 x5 x6 s0 s1 sr2 M
  | F + 1, 2, r0, x1, x2, x3, x4, x5, x6, s0, s1, sr2, M => a_Model_tables_2 (g_Model_tables F) r0 x1 x2 x3 x4 x5 x6 s0 s1 sr2 M
  | F + 1, 3, r0, x1, x2, x3, x4, x5, x6, s0, s1, sr2, M => a_Model_tables_3 (g_Model_tables F) r0 x1 x2 x3 x4 x5 x6 s0 s1 sr2 M
  | F + 1, 4, r0, x1, x2, x3, x4, x5, x6, s0, s1, sr2, M => a_Model_tables_4 (g_Model_tables F) r0 x1 x2 x3 x4 x5 x6 s0 s1 sr2 M
  | F + 1, 5, r0, x1, x2, x3, x4, x5, x6, s0, s1, sr2, M => a_Model_tables_5 (g_Model_tables F) r0 x1 x2 x3 x4 x5 x6 s0 s1 sr2 M
  | F + 1, 6, r0, x1, x2, x3, x4, x5, x6, s0, s1, sr2, M => a_Model_tables_6 (g_Model_tables F) r0 x1 x2 x3 x4 x5 x6 s0 s1 sr2 M
  | F + 1, 7, r0, x1, x2, x3, x4, x5, x6, s0, s1, sr2, M => a_Model_tables_7 (g_Model_tables F) r0 x1 x2 x3 x4 x5 x6 s0 s1 sr2 M
  | F + 1, 8, r0, x1, x2, x3, x4, x5, x6, s0, s1, sr2, M => a_Model_tables_8 (g_Model_tables F) r0 x1 x2 x3 x4 x5 x6 s0 s1 sr2 M
  | F + 1, 9, r0, x1, x2, x3, x4, x5, x6, s0, s1, sr2, M => a_Model_tables_9 (g_Model_tables F) r0 x1 x2 x3 x4 x5 x6 s0 s1 sr2 M
  | _ + 1, _ + 10, _, _, _, _, _, _, _, _, _, _, _ => none
def e_Model_tables (rc : Nat → Nat → Int32 → Int32 → Int32 → Int32 → Int32 → Int32 → Int32 → Int32 → Nat → am_M → Option (Unit × am_M)) (M : am_M) (a0 : Nat) : Option (Unit × am_M) := (q_gti M a0 10 49).bind (fun t2 => rc 0 a0 ((1 : Int32) <<< (t2 &&& 31)) (0 : Int32) 0 0 0 0 0 0 0 M)
def f_Model_tables (M : am_M) (a0 : Nat) : Option (Unit × am_M) := e_Model_tables (g_Model_tables 1000000000) M a0
theorem kV_Model_261 : am_kV "CrewOfficeModel" 261 10 y_Model_mayGet u_Model_mayGet 2 := ⟨List.mem_of_getElem? (i := 1340) (by decide +kernel), ⟨List.mem_of_getElem? (i := 1342) (by decide +kernel), List.mem_of_getElem? (i := 47) (by decide +kernel)⟩, List.mem_of_getElem? (i := 65) (by decide +kernel), w_Model_mayGet, ⟨⟨by decide +kernel, by decide +kernel⟩, by decide +kernel⟩⟩
set_option maxHeartbeats 4000000 in
theorem s_Model_tables_0 {rc : Nat → Nat → Int32 → Int32 → Int32 → Int32 → Int32 → Int32 → Int32 → Int32 → Nat → am_M → Option (Unit × am_M)} {res : Unit} {M' : am_M} (ih_0 : ∀ (r0 : Nat) (x1 : Int32) (x2 : Int32) (x3 : Int32) (x4 : Int32) (x5 : Int32) (x6 : Int32) (s0 : Int32) (s1 : Int32) (sr2 : Nat) (M : am_M), rc 0 r0 x1 x2 x3 x4 x5 x6 s0 s1 sr2 M = some (res, M') → AW u_Model_tables R_Model_tables 0 0 9 [(0, .ref r0), (1, .int x1), (2, .int x2)] [] M (fun r M2 => r = .inl none ∧ M2 = M')) (ih_1 : ∀ (r0 : Nat) (x1 : Int32) (x2 : Int32) (x3 : Int32) (x4 : Int32) (x5 : Int32) (x6 : Int32) (s0 : Int32) (s1 : Int32) (sr2 : Nat) (M : am_M), rc 1 r0 x1 x2 x3 x4 x5 x6 s0 s1 sr2 M = some (res, M') → AW u_Model_tables R_Model_tables 0 0 37 [(0, .ref r0), (1, .int x1), (2, .int x2)] [.int s0, .int s1, .ref sr2] M (fun r M2 => r = .inl none ∧ M2 = M')) (ih_2 : ∀ (r0 : Nat) (x1 : Int32) (x2 : Int32) (x3 : Int32) (x4 : Int32) (x5 : Int32) (x6 : Int32) (s0 : Int32) (s1 : Int32) (sr2 : Nat) (M : am_M), rc 2 r0 x1 x2 x3 x4 x5 x6 s0 s1 sr2 M = some (res, M') → AW u_Model_tables R_Model_tables 0 0 51 [(0, .ref r0), (1, .int x1), (2, .int x2)] [] M (fun r M2 => r = .inl none ∧ M2 = M')) (ih_3 : ∀ (r0 : Nat) (x1 : Int32) (x2 : Int32) (x3 : Int32) (x4 : Int32) (x5 : Int32) (x6 : Int32) (s0 : Int32) (s1 : Int32) (sr2 : Nat) (M : am_M), rc 3 r0 x1 x2 x3 x4 x5 x6 s0 s1 sr2 M = some (res, M') → AW u_Model_tables R_Model_tables 0 0 57 [(0, .ref r0), (1, .int x1), (2, .int x2), (3, .int x3)] [] M (fun r M2 => r = .inl none ∧ M2 = M')) (ih_4 : ∀ (r0 : Nat) (x1 : Int32) (x2 : Int32) (x3 : Int32) (x4 : Int32) (x5 : Int32) (x6 : Int32) (s0 : Int32) (s1 : Int32) (sr2 : Nat) (M : am_M), rc 4 r0 x1 x2 x3 x4 x5 x6 s0 s1 sr2 M = some (res, M') → AW u_Model_tables R_Model_tables 0 0 93 [(0, .ref r0), (1, .int x1), (2, .int x2), (3, .int x3)] [] M (fun r M2 => r = .inl none ∧ M2 = M')) (ih_5 : ∀ (r0 : Nat) (x1 : Int32) (x2 : Int32) (x3 : Int32) (x4 : Int32) (x5 : Int32) (x6 : Int32) (s0 : Int32) (s1 : Int32) (sr2 : Nat) (M : am_M), rc 5 r0 x1 x2 x3 x4 x5 x6 s0 s1 sr2 M = some (res, M') → AW u_Model_tables R_Model_tables 0 0 107 [(0, .ref r0), (1, .int x1), (2, .int x2), (3, .int x3), (4, .int x4), (5, .int x5), (6, .int x6)] [] M (fun r M2 => r = .inl none ∧ M2 = M')) (ih_6 : ∀ (r0 : Nat) (x1 : Int32) (x2 : Int32) (x3 : Int32) (x4 : Int32) (x5 : Int32) (x6 : Int32) (s0 : Int32) (s1 : Int32) (sr2 : Nat) (M : am_M), rc 6 r0 x1 x2 x3 x4 x5 x6 s0 s1 sr2 M = some (res, M') → AW u_Model_tables R_Model_tables 0 0 157 [(0, .ref r0), (1, .int x1), (2, .int x2), (3, .int x3), (5, .int x5)] [] M (fun r M2 => r = .inl none ∧ M2 = M')) (ih_7 : ∀ (r0 : Nat) (x1 : Int32) (x2 : Int32) (x3 : Int32) (x4 : Int32) (x5 : Int32) (x6 : Int32) (s0 : Int32) (s1 : Int32) (sr2 : Nat) (M : am_M), rc 7 r0 x1 x2 x3 x4 x5 x6 s0 s1 sr2 M = some (res, M') → AW u_Model_tables R_Model_tables 0 0 158 [(0, .ref r0), (1, .int x1), (2, .int x2), (3, .int x3), (5, .int x5)] [.int s0] M (fun r M2 => r = .inl none ∧ M2 = M')) (ih_8 : ∀ (r0 : Nat) (x1 : Int32) (x2 : Int32) (x3 : Int32) (x4 : Int32) (x5 : Int32) (x6 : Int32) (s0 : Int32) (s1 : Int32) (sr2 : Nat) (M : am_M), rc 8 r0 x1 x2 x3 x4 x5 x6 s0 s1 sr2 M = some (res, M') → AW u_Model_tables R_Model_tables 0 0 170 [(0, .ref r0), (1, .int x1), (2, .int x2), (3, .int x3), (4, .int x4), (5, .int x5)] [.int s0] M (fun r M2 => r = .inl none ∧ M2 = M')) (ih_9 : ∀ (r0 : Nat) (x1 : Int32) (x2 : Int32) (x3 : Int32) (x4 : Int32) (x5 : Int32) (x6 : Int32) (s0 : Int32) (s1 : Int32) (sr2 : Nat) (M : am_M), rc 9 r0 x1 x2 x3 x4 x5 x6 s0 s1 sr2 M = some (res, M') → AW u_Model_tables R_Model_tables 0 0 183 [(0, .ref r0), (1, .int x1), (2, .int x2), (3, .int x3), (4, .int x4)] [] M (fun r M2 => r = .inl none ∧ M2 = M')) : ∀ (r0 : Nat) (x1 : Int32) (x2 : Int32) (x3 : Int32) (x4 : Int32) (x5 : Int32) (x6 : Int32) (s0 : Int32) (s1 : Int32) (sr2 : Nat) (M : am_M), a_Model_tables_0 rc r0 x1 x2 x3 x4 x5 x6 s0 s1 sr2 M = some (res, M') → AW u_Model_tables R_Model_tables 0 0 9 [(0, .ref r0), (1, .int x1), (2, .int x2)] [] M (fun r M2 => r = .inl none ∧ M2 = M') := by
  intro r0 x1 x2 x3 x4 x5 x6 s0 s1 sr2 M h
  unfold a_Model_tables_0 at h
  refine aw_iload_n d_Model_tables_9 rfl rfl ?_
  refine aw_iload_n d_Model_tables_10 rfl rfl ?_
  refine aw_icmp_ge (tgt := 44) d_Model_tables_11 (by decide) (fun hc => ?_) (fun hc => ?_)
  · rw [if_pos hc] at h
    refine aw_aload_n d_Model_tables_44 rfl rfl ?_
    obtain ⟨t45, e_t45, h⟩ := q_bind h
    refine aw_gti d_Model_tables_45 fl_Model_258 (Or.inl rfl) e_t45 ?_
    refine aw_iconst (v := 1) d_Model_tables_48 (by decide) ?_
    refine aw_isub d_Model_tables_49 ?_
    refine aw_istore_n (ls' := [(2, .int _), (0, .ref _), (1, .int _)]) d_Model_tables_50 rfl (Nat.le_of_ble_eq_true rfl) rfl ?_
    exact aw_pick [1, 2, 0] rfl (ih_2 _ _ _ _ _ _ _ _ _ _ _ h)
  · rw [if_neg hc] at h
    refine aw_aload_n d_Model_tables_14 rfl rfl ?_
    obtain ⟨t15, e_t15, h⟩ := q_bind h
    refine aw_gtr d_Model_tables_15 fl_Model_152 (Or.inr ⟨_, rfl⟩) e_t15 ?_
    refine aw_sipush (v := 4096) d_Model_tables_18 (by decide) ?_
    refine aw_aload_n d_Model_tables_21 rfl rfl ?_
    obtain ⟨t22, e_t22, h⟩ := q_bind h
    refine aw_gti d_Model_tables_22 fl_Model_258 (Or.inl rfl) e_t22 ?_
    refine aw_imul d_Model_tables_25 ?_
    refine aw_iload_n d_Model_tables_26 rfl rfl ?_
    refine aw_iadd d_Model_tables_27 ?_
    refine aw_iload_n d_Model_tables_28 rfl rfl ?_
    refine aw_if_ne (tgt := 36) d_Model_tables_29 (by decide) (fun hc => ?_) (fun hc => ?_)
    · rw [if_neg hc] at h
      refine aw_iconst (v := 0) d_Model_tables_36 (by decide) ?_
      exact aw_pick [0, 1, 2] rfl (ih_1 _ _ _ _ _ _ _ _ _ _ _ h)
    · rw [if_pos hc] at h
      refine aw_iconst (v := 1) d_Model_tables_32 (by decide) ?_
      refine aw_goto (tgt := 37) d_Model_tables_33 (by decide) ?_
      exact aw_pick [0, 1, 2] rfl (ih_1 _ _ _ _ _ _ _ _ _ _ _ h)
set_option maxHeartbeats 4000000 in
theorem s_Model_tables_1 {rc : Nat → Nat → Int32 → Int32 → Int32 → Int32 → Int32 → Int32 → Int32 → Int32 → Nat → am_M → Option (Unit × am_M)} {res : Unit} {M' : am_M} (ih_0 : ∀ (r0 : Nat) (x1 : Int32) (x2 : Int32) (x3 : Int32) (x4 : Int32) (x5 : Int32) (x6 : Int32) (s0 : Int32) (s1 : Int32) (sr2 : Nat) (M : am_M), rc 0 r0 x1 x2 x3 x4 x5 x6 s0 s1 sr2 M = some (res, M') → AW u_Model_tables R_Model_tables 0 0 9 [(0, .ref r0), (1, .int x1), (2, .int x2)] [] M (fun r M2 => r = .inl none ∧ M2 = M')) (ih_1 : ∀ (r0 : Nat) (x1 : Int32) (x2 : Int32) (x3 : Int32) (x4 : Int32) (x5 : Int32) (x6 : Int32) (s0 : Int32) (s1 : Int32) (sr2 : Nat) (M : am_M), rc 1 r0 x1 x2 x3 x4 x5 x6 s0 s1 sr2 M = some (res, M') → AW u_Model_tables R_Model_tables 0 0 37 [(0, .ref r0), (1, .int x1), (2, .int x2)] [.int s0, .int s1, .ref sr2] M (fun r M2 => r = .inl none ∧ M2 = M')) (ih_2 : ∀ (r0 : Nat) (x1 : Int32) (x2 : Int32) (x3 : Int32) (x4 : Int32) (x5 : Int32) (x6 : Int32) (s0 : Int32) (s1 : Int32) (sr2 : Nat) (M : am_M), rc 2 r0 x1 x2 x3 x4 x5 x6 s0 s1 sr2 M = some (res, M') → AW u_Model_tables R_Model_tables 0 0 51 [(0, .ref r0), (1, .int x1), (2, .int x2)] [] M (fun r M2 => r = .inl none ∧ M2 = M')) (ih_3 : ∀ (r0 : Nat) (x1 : Int32) (x2 : Int32) (x3 : Int32) (x4 : Int32) (x5 : Int32) (x6 : Int32) (s0 : Int32) (s1 : Int32) (sr2 : Nat) (M : am_M), rc 3 r0 x1 x2 x3 x4 x5 x6 s0 s1 sr2 M = some (res, M') → AW u_Model_tables R_Model_tables 0 0 57 [(0, .ref r0), (1, .int x1), (2, .int x2), (3, .int x3)] [] M (fun r M2 => r = .inl none ∧ M2 = M')) (ih_4 : ∀ (r0 : Nat) (x1 : Int32) (x2 : Int32) (x3 : Int32) (x4 : Int32) (x5 : Int32) (x6 : Int32) (s0 : Int32) (s1 : Int32) (sr2 : Nat) (M : am_M), rc 4 r0 x1 x2 x3 x4 x5 x6 s0 s1 sr2 M = some (res, M') → AW u_Model_tables R_Model_tables 0 0 93 [(0, .ref r0), (1, .int x1), (2, .int x2), (3, .int x3)] [] M (fun r M2 => r = .inl none ∧ M2 = M')) (ih_5 : ∀ (r0 : Nat) (x1 : Int32) (x2 : Int32) (x3 : Int32) (x4 : Int32) (x5 : Int32) (x6 : Int32) (s0 : Int32) (s1 : Int32) (sr2 : Nat) (M : am_M), rc 5 r0 x1 x2 x3 x4 x5 x6 s0 s1 sr2 M = some (res, M') → AW u_Model_tables R_Model_tables 0 0 107 [(0, .ref r0), (1, .int x1), (2, .int x2), (3, .int x3), (4, .int x4), (5, .int x5), (6, .int x6)] [] M (fun r M2 => r = .inl none ∧ M2 = M')) (ih_6 : ∀ (r0 : Nat) (x1 : Int32) (x2 : Int32) (x3 : Int32) (x4 : Int32) (x5 : Int32) (x6 : Int32) (s0 : Int32) (s1 : Int32) (sr2 : Nat) (M : am_M), rc 6 r0 x1 x2 x3 x4 x5 x6 s0 s1 sr2 M = some (res, M') → AW u_Model_tables R_Model_tables 0 0 157 [(0, .ref r0), (1, .int x1), (2, .int x2), (3, .int x3), (5, .int x5)] [] M (fun r M2 => r = .inl none ∧ M2 = M')) (ih_7 : ∀ (r0 : Nat) (x1 : Int32) (x2 : Int32) (x3 : Int32) (x4 : Int32) (x5 : Int32) (x6 : Int32) (s0 : Int32) (s1 : Int32) (sr2 : Nat) (M : am_M), rc 7 r0 x1 x2 x3 x4 x5 x6 s0 s1 sr2 M = some (res, M') → AW u_Model_tables R_Model_tables 0 0 158 [(0, .ref r0), (1, .int x1), (2, .int x2), (3, .int x3), (5, .int x5)] [.int s0] M (fun r M2 => r = .inl none ∧ M2 = M')) (ih_8 : ∀ (r0 : Nat) (x1 : Int32) (x2 : Int32) (x3 : Int32) (x4 : Int32) (x5 : Int32) (x6 : Int32) (s0 : Int32) (s1 : Int32) (sr2 : Nat) (M : am_M), rc 8 r0 x1 x2 x3 x4 x5 x6 s0 s1 sr2 M = some (res, M') → AW u_Model_tables R_Model_tables 0 0 170 [(0, .ref r0), (1, .int x1), (2, .int x2), (3, .int x3), (4, .int x4), (5, .int x5)] [.int s0] M (fun r M2 => r = .inl none ∧ M2 = M')) (ih_9 : ∀ (r0 : Nat) (x1 : Int32) (x2 : Int32) (x3 : Int32) (x4 : Int32) (x5 : Int32) (x6 : Int32) (s0 : Int32) (s1 : Int32) (sr2 : Nat) (M : am_M), rc 9 r0 x1 x2 x3 x4 x5 x6 s0 s1 sr2 M = some (res, M') → AW u_Model_tables R_Model_tables 0 0 183 [(0, .ref r0), (1, .int x1), (2, .int x2), (3, .int x3), (4, .int x4)] [] M (fun r M2 => r = .inl none ∧ M2 = M')) : ∀ (r0 : Nat) (x1 : Int32) (x2 : Int32) (x3 : Int32) (x4 : Int32) (x5 : Int32) (x6 : Int32) (s0 : Int32) (s1 : Int32) (sr2 : Nat) (M : am_M), a_Model_tables_1 rc r0 x1 x2 x3 x4 x5 x6 s0 s1 sr2 M = some (res, M') → AW u_Model_tables R_Model_tables 0 0 37 [(0, .ref r0), (1, .int x1), (2, .int x2)] [.int s0, .int s1, .ref sr2] M (fun r M2 => r = .inl none ∧ M2 = M') := by
  intro r0 x1 x2 x3 x4 x5 x6 s0 s1 sr2 M h
  unfold a_Model_tables_1 at h
  obtain ⟨M37, e_M37, h⟩ := q_bind h
  refine aw_stz d_Model_tables_37 e_M37 ?_
  refine aw_iinc (v := (x2 + (1 : Int32))) (ls' := [(2, .int _), (0, .ref _), (1, .int _)]) d_Model_tables_38 rfl rfl (Nat.le_of_ble_eq_true rfl) rfl ?_
  refine aw_goto (tgt := 9) d_Model_tables_41 (by decide) ?_
  exact aw_pick [1, 2, 0] rfl (ih_0 _ _ _ _ _ _ _ _ _ _ _ h)
set_option maxHeartbeats 4000000 in
theorem s_Model_tables_2 {rc : Nat → Nat → Int32 → Int32 → Int32 → Int32 → Int32 → Int32 → Int32 → Int32 → Nat → am_M → Option (Unit × am_M)} {res : Unit} {M' : am_M} (ih_0 : ∀ (r0 : Nat) (x1 : Int32) (x2 : Int32) (x3 : Int32) (x4 : Int32) (x5 : Int32) (x6 : Int32) (s0 : Int32) (s1 : Int32) (sr2 : Nat) (M : am_M), rc 0 r0 x1 x2 x3 x4 x5 x6 s0 s1 sr2 M = some (res, M') → AW u_Model_tables R_Model_tables 0 0 9 [(0, .ref r0), (1, .int x1), (2, .int x2)] [] M (fun r M2 => r = .inl none ∧ M2 = M')) (ih_1 : ∀ (r0 : Nat) (x1 : Int32) (x2 : Int32) (x3 : Int32) (x4 : Int32) (x5 : Int32) (x6 : Int32) (s0 : Int32) (s1 : Int32) (sr2 : Nat) (M : am_M), rc 1 r0 x1 x2 x3 x4 x5 x6 s0 s1 sr2 M = some (res, M') → AW u_Model_tables R_Model_tables 0 0 37 [(0, .ref r0), (1, .int x1), (2, .int x2)] [.int s0, .int s1, .ref sr2] M (fun r M2 => r = .inl none ∧ M2 = M')) (ih_2 : ∀ (r0 : Nat) (x1 : Int32) (x2 : Int32) (x3 : Int32) (x4 : Int32) (x5 : Int32) (x6 : Int32) (s0 : Int32) (s1 : Int32) (sr2 : Nat) (M : am_M), rc 2 r0 x1 x2 x3 x4 x5 x6 s0 s1 sr2 M = some (res, M') → AW u_Model_tables R_Model_tables 0 0 51 [(0, .ref r0), (1, .int x1), (2, .int x2)] [] M (fun r M2 => r = .inl none ∧ M2 = M')) (ih_3 : ∀ (r0 : Nat) (x1 : Int32) (x2 : Int32) (x3 : Int32) (x4 : Int32) (x5 : Int32) (x6 : Int32) (s0 : Int32) (s1 : Int32) (sr2 : Nat) (M : am_M), rc 3 r0 x1 x2 x3 x4 x5 x6 s0 s1 sr2 M = some (res, M') → AW u_Model_tables R_Model_tables 0 0 57 [(0, .ref r0), (1, .int x1), (2, .int x2), (3, .int x3)] [] M (fun r M2 => r = .inl none ∧ M2 = M')) (ih_4 : ∀ (r0 : Nat) (x1 : Int32) (x2 : Int32) (x3 : Int32) (x4 : Int32) (x5 : Int32) (x6 : Int32) (s0 : Int32) (s1 : Int32) (sr2 : Nat) (M : am_M), rc 4 r0 x1 x2 x3 x4 x5 x6 s0 s1 sr2 M = some (res, M') → AW u_Model_tables R_Model_tables 0 0 93 [(0, .ref r0), (1, .int x1), (2, .int x2), (3, .int x3)] [] M (fun r M2 => r = .inl none ∧ M2 = M')) (ih_5 : ∀ (r0 : Nat) (x1 : Int32) (x2 : Int32) (x3 : Int32) (x4 : Int32) (x5 : Int32) (x6 : Int32) (s0 : Int32) (s1 : Int32) (sr2 : Nat) (M : am_M), rc 5 r0 x1 x2 x3 x4 x5 x6 s0 s1 sr2 M = some (res, M') → AW u_Model_tables R_Model_tables 0 0 107 [(0, .ref r0), (1, .int x1), (2, .int x2), (3, .int x3), (4, .int x4), (5, .int x5), (6, .int x6)] [] M (fun r M2 => r = .inl none ∧ M2 = M')) (ih_6 : ∀ (r0 : Nat) (x1 : Int32) (x2 : Int32) (x3 : Int32) (x4 : Int32) (x5 : Int32) (x6 : Int32) (s0 : Int32) (s1 : Int32) (sr2 : Nat) (M : am_M), rc 6 r0 x1 x2 x3 x4 x5 x6 s0 s1 sr2 M = some (res, M') → AW u_Model_tables R_Model_tables 0 0 157 [(0, .ref r0), (1, .int x1), (2, .int x2), (3, .int x3), (5, .int x5)] [] M (fun r M2 => r = .inl none ∧ M2 = M')) (ih_7 : ∀ (r0 : Nat) (x1 : Int32) (x2 : Int32) (x3 : Int32) (x4 : Int32) (x5 : Int32) (x6 : Int32) (s0 : Int32) (s1 : Int32) (sr2 : Nat) (M : am_M), rc 7 r0 x1 x2 x3 x4 x5 x6 s0 s1 sr2 M = some (res, M') → AW u_Model_tables R_Model_tables 0 0 158 [(0, .ref r0), (1, .int x1), (2, .int x2), (3, .int x3), (5, .int x5)] [.int s0] M (fun r M2 => r = .inl none ∧ M2 = M')) (ih_8 : ∀ (r0 : Nat) (x1 : Int32) (x2 : Int32) (x3 : Int32) (x4 : Int32) (x5 : Int32) (x6 : Int32) (s0 : Int32) (s1 : Int32) (sr2 : Nat) (M : am_M), rc 8 r0 x1 x2 x3 x4 x5 x6 s0 s1 sr2 M = some (res, M') → AW u_Model_tables R_Model_tables 0 0 170 [(0, .ref r0), (1, .int x1), (2, .int x2), (3, .int x3), (4, .int x4), (5, .int x5)] [.int s0] M (fun r M2 => r = .inl none ∧ M2 = M')) (ih_9 : ∀ (r0 : Nat) (x1 : Int32) (x2 : Int32) (x3 : Int32) (x4 : Int32) (x5 : Int32) (x6 : Int32) (s0 : Int32) (s1 : Int32) (sr2 : Nat) (M : am_M), rc 9 r0 x1 x2 x3 x4 x5 x6 s0 s1 sr2 M = some (res, M') → AW u_Model_tables R_Model_tables 0 0 183 [(0, .ref r0), (1, .int x1), (2, .int x2), (3, .int x3), (4, .int x4)] [] M (fun r M2 => r = .inl none ∧ M2 = M')) : ∀ (r0 : Nat) (x1 : Int32) (x2 : Int32) (x3 : Int32) (x4 : Int32) (x5 : Int32) (x6 : Int32) (s0 : Int32) (s1 : Int32) (sr2 : Nat) (M : am_M), a_Model_tables_2 rc r0 x1 x2 x3 x4 x5 x6 s0 s1 sr2 M = some (res, M') → AW u_Model_tables R_Model_tables 0 0 51 [(0, .ref r0), (1, .int x1), (2, .int x2)] [] M (fun r M2 => r = .inl none ∧ M2 = M') := by
  intro r0 x1 x2 x3 x4 x5 x6 s0 s1 sr2 M h
  unfold a_Model_tables_2 at h
  refine aw_iload_n d_Model_tables_51 rfl rfl ?_
  refine aw_if_lt (tgt := 209) d_Model_tables_52 (by decide) (fun hc => ?_) (fun hc => ?_)
  · rw [if_pos hc] at h
    cases h
    exact aw_vreturn d_Model_tables_209 rfl (Nat.le_of_ble_eq_true rfl) (Nat.le_of_ble_eq_true rfl) ⟨rfl, rfl⟩
  · rw [if_neg hc] at h
    refine aw_iconst (v := 0) d_Model_tables_55 (by decide) ?_
    refine aw_istore_n (ls' := [(3, .int _), (0, .ref _), (1, .int _), (2, .int _)]) d_Model_tables_56 rfl (Nat.le_of_ble_eq_true rfl) rfl ?_
    exact aw_pick [1, 2, 3, 0] rfl (ih_3 _ _ _ _ _ _ _ _ _ _ _ h)
set_option maxHeartbeats 4000000 in
theorem s_Model_tables_3 {rc : Nat → Nat → Int32 → Int32 → Int32 → Int32 → Int32 → Int32 → Int32 → Int32 → Nat → am_M → Option (Unit × am_M)} {res : Unit} {M' : am_M} (ih_0 : ∀ (r0 : Nat) (x1 : Int32) (x2 : Int32) (x3 : Int32) (x4 : Int32) (x5 : Int32) (x6 : Int32) (s0 : Int32) (s1 : Int32) (sr2 : Nat) (M : am_M), rc 0 r0 x1 x2 x3 x4 x5 x6 s0 s1 sr2 M = some (res, M') → AW u_Model_tables R_Model_tables 0 0 9 [(0, .ref r0), (1, .int x1), (2, .int x2)] [] M (fun r M2 => r = .inl none ∧ M2 = M')) (ih_1 : ∀ (r0 : Nat) (x1 : Int32) (x2 : Int32) (x3 : Int32) (x4 : Int32) (x5 : Int32) (x6 : Int32) (s0 : Int32) (s1 : Int32) (sr2 : Nat) (M : am_M), rc 1 r0 x1 x2 x3 x4 x5 x6 s0 s1 sr2 M = some (res, M') → AW u_Model_tables R_Model_tables 0 0 37 [(0, .ref r0), (1, .int x1), (2, .int x2)] [.int s0, .int s1, .ref sr2] M (fun r M2 => r = .inl none ∧ M2 = M')) (ih_2 : ∀ (r0 : Nat) (x1 : Int32) (x2 : Int32) (x3 : Int32) (x4 : Int32) (x5 : Int32) (x6 : Int32) (s0 : Int32) (s1 : Int32) (sr2 : Nat) (M : am_M), rc 2 r0 x1 x2 x3 x4 x5 x6 s0 s1 sr2 M = some (res, M') → AW u_Model_tables R_Model_tables 0 0 51 [(0, .ref r0), (1, .int x1), (2, .int x2)] [] M (fun r M2 => r = .inl none ∧ M2 = M')) (ih_3 : ∀ (r0 : Nat) (x1 : Int32) (x2 : Int32) (x3 : Int32) (x4 : Int32) (x5 : Int32) (x6 : Int32) (s0 : Int32) (s1 : Int32) (sr2 : Nat) (M : am_M), rc 3 r0 x1 x2 x3 x4 x5 x6 s0 s1 sr2 M = some (res, M') → AW u_Model_tables R_Model_tables 0 0 57 [(0, .ref r0), (1, .int x1), (2, .int x2), (3, .int x3)] [] M (fun r M2 => r = .inl none ∧ M2 = M')) (ih_4 : ∀ (r0 : Nat) (x1 : Int32) (x2 : Int32) (x3 : Int32) (x4 : Int32) (x5 : Int32) (x6 : Int32) (s0 : Int32) (s1 : Int32) (sr2 : Nat) (M : am_M), rc 4 r0 x1 x2 x3 x4 x5 x6 s0 s1 sr2 M = some (res, M') → AW u_Model_tables R_Model_tables 0 0 93 [(0, .ref r0), (1, .int x1), (2, .int x2), (3, .int x3)] [] M (fun r M2 => r = .inl none ∧ M2 = M')) (ih_5 : ∀ (r0 : Nat) (x1 : Int32) (x2 : Int32) (x3 : Int32) (x4 : Int32) (x5 : Int32) (x6 : Int32) (s0 : Int32) (s1 : Int32) (sr2 : Nat) (M : am_M), rc 5 r0 x1 x2 x3 x4 x5 x6 s0 s1 sr2 M = some (res, M') → AW u_Model_tables R_Model_tables 0 0 107 [(0, .ref r0), (1, .int x1), (2, .int x2), (3, .int x3), (4, .int x4), (5, .int x5), (6, .int x6)] [] M (fun r M2 => r = .inl none ∧ M2 = M')) (ih_6 : ∀ (r0 : Nat) (x1 : Int32) (x2 : Int32) (x3 : Int32) (x4 : Int32) (x5 : Int32) (x6 : Int32) (s0 : Int32) (s1 : Int32) (sr2 : Nat) (M : am_M), rc 6 r0 x1 x2 x3 x4 x5 x6 s0 s1 sr2 M = some (res, M') → AW u_Model_tables R_Model_tables 0 0 157 [(0, .ref r0), (1, .int x1), (2, .int x2), (3, .int x3), (5, .int x5)] [] M (fun r M2 => r = .inl none ∧ M2 = M')) (ih_7 : ∀ (r0 : Nat) (x1 : Int32) (x2 : Int32) (x3 : Int32) (x4 : Int32) (x5 : Int32) (x6 : Int32) (s0 : Int32) (s1 : Int32) (sr2 : Nat) (M : am_M), rc 7 r0 x1 x2 x3 x4 x5 x6 s0 s1 sr2 M = some (res, M') → AW u_Model_tables R_Model_tables 0 0 158 [(0, .ref r0), (1, .int x1), (2, .int x2), (3, .int x3), (5, .int x5)] [.int s0] M (fun r M2 => r = .inl none ∧ M2 = M')) (ih_8 : ∀ (r0 : Nat) (x1 : Int32) (x2 : Int32) (x3 : Int32) (x4 : Int32) (x5 : Int32) (x6 : Int32) (s0 : Int32) (s1 : Int32) (sr2 : Nat) (M : am_M), rc 8 r0 x1 x2 x3 x4 x5 x6 s0 s1 sr2 M = some (res, M') → AW u_Model_tables R_Model_tables 0 0 170 [(0, .ref r0), (1, .int x1), (2, .int x2), (3, .int x3), (4, .int x4), (5, .int x5)] [.int s0] M (fun r M2 => r = .inl none ∧ M2 = M')) (ih_9 : ∀ (r0 : Nat) (x1 : Int32) (x2 : Int32) (x3 : Int32) (x4 : Int32) (x5 : Int32) (x6 : Int32) (s0 : Int32) (s1 : Int32) (sr2 : Nat) (M : am_M), rc 9 r0 x1 x2 x3 x4 x5 x6 s0 s1 sr2 M = some (res, M') → AW u_Model_tables R_Model_tables 0 0 183 [(0, .ref r0), (1, .int x1), (2, .int x2), (3, .int x3), (4, .int x4)] [] M (fun r M2 => r = .inl none ∧ M2 = M')) : ∀ (r0 : Nat) (x1 : Int32) (x2 : Int32) (x3 : Int32) (x4 : Int32) (x5 : Int32) (x6 : Int32) (s0 : Int32) (s1 : Int32) (sr2 : Nat) (M : am_M), a_Model_tables_3 rc r0 x1 x2 x3 x4 x5 x6 s0 s1 sr2 M = some (res, M') → AW u_Model_tables R_Model_tables 0 0 57 [(0, .ref r0), (1, .int x1), (2, .int x2), (3, .int x3)] [] M (fun r M2 => r = .inl none ∧ M2 = M') := by
  intro r0 x1 x2 x3 x4 x5 x6 s0 s1 sr2 M h
  unfold a_Model_tables_3 at h
  refine aw_iload_n d_Model_tables_57 rfl rfl ?_
  refine aw_iload_n d_Model_tables_58 rfl rfl ?_
  refine aw_icmp_ge (tgt := 91) d_Model_tables_59 (by decide) (fun hc => ?_) (fun hc => ?_)
  · rw [if_pos hc] at h
    refine aw_iconst (v := 0) d_Model_tables_91 (by decide) ?_
    refine aw_istore_n (ls' := [(3, .int _), (0, .ref _), (1, .int _), (2, .int _)]) d_Model_tables_92 rfl (Nat.le_of_ble_eq_true rfl) rfl ?_
    exact aw_pick [1, 2, 3, 0] rfl (ih_4 _ _ _ _ _ _ _ _ _ _ _ h)
  · rw [if_neg hc] at h
    refine aw_aload_n d_Model_tables_62 rfl rfl ?_
    obtain ⟨t63, e_t63, h⟩ := q_bind h
    refine aw_gtr d_Model_tables_63 fl_Model_149 (Or.inr ⟨_, rfl⟩) e_t63 ?_
    refine aw_sipush (v := 4096) d_Model_tables_66 (by decide) ?_
    refine aw_iload_n d_Model_tables_69 rfl rfl ?_
    refine aw_imul d_Model_tables_70 ?_
    refine aw_iload_n d_Model_tables_71 rfl rfl ?_
    refine aw_iadd d_Model_tables_72 ?_
    refine aw_aload_n d_Model_tables_73 rfl rfl ?_
    refine aw_aload_n d_Model_tables_74 rfl rfl ?_
    obtain ⟨t75, e_t75, h⟩ := q_bind h
    refine aw_gtr d_Model_tables_75 fl_Model_146 (Or.inr ⟨_, rfl⟩) e_t75 ?_
    refine aw_iload_n d_Model_tables_78 rfl rfl ?_
    obtain ⟨t79, e_t79, h⟩ := q_bind h
    refine aw_ldi d_Model_tables_79 e_t79 ?_
    refine aw_iload_n d_Model_tables_80 rfl rfl ?_
    obtain ⟨o81, e_o81, h⟩ := q_bind h
    obtain ⟨⟨t81, M81⟩, e_t81, h⟩ := q_bind h
    dsimp only at h
    refine aw_cV (v := (some (.int t81))) (As := [.int t79, .int x3]) (rest := [.int (((4096 : Int32) * x2) + x3), .ref t63]) (st' := [.int t81, .int (((4096 : Int32) * x2) + x3), .ref t63]) d_Model_tables_81 kV_Model_261 (q_ob_spec e_o81).1 (q_ob_spec e_o81).2 ⟨Nat.le_of_ble_eq_true rfl, Nat.le_of_ble_eq_true rfl, Nat.le_of_ble_eq_true rfl, Nat.le_of_ble_eq_true rfl⟩ rfl rfl (Nat.le_of_ble_eq_true rfl) rfl (mt_Model_mayGet e_t81) ?_
    obtain ⟨M84, e_M84, h⟩ := q_bind h
    refine aw_stz d_Model_tables_84 e_M84 ?_
    refine aw_iinc (v := (x3 + (1 : Int32))) (ls' := [(3, .int _), (0, .ref _), (1, .int _), (2, .int _)]) d_Model_tables_85 rfl rfl (Nat.le_of_ble_eq_true rfl) rfl ?_
    refine aw_goto (tgt := 57) d_Model_tables_88 (by decide) ?_
    exact aw_pick [1, 2, 3, 0] rfl (ih_3 _ _ _ _ _ _ _ _ _ _ _ h)
set_option maxHeartbeats 4000000 in
theorem s_Model_tables_4 {rc : Nat → Nat → Int32 → Int32 → Int32 → Int32 → Int32 → Int32 → Int32 → Int32 → Nat → am_M → Option (Unit × am_M)} {res : Unit} {M' : am_M} (ih_0 : ∀ (r0 : Nat) (x1 : Int32) (x2 : Int32) (x3 : Int32) (x4 : Int32) (x5 : Int32) (x6 : Int32) (s0 : Int32) (s1 : Int32) (sr2 : Nat) (M : am_M), rc 0 r0 x1 x2 x3 x4 x5 x6 s0 s1 sr2 M = some (res, M') → AW u_Model_tables R_Model_tables 0 0 9 [(0, .ref r0), (1, .int x1), (2, .int x2)] [] M (fun r M2 => r = .inl none ∧ M2 = M')) (ih_1 : ∀ (r0 : Nat) (x1 : Int32) (x2 : Int32) (x3 : Int32) (x4 : Int32) (x5 : Int32) (x6 : Int32) (s0 : Int32) (s1 : Int32) (sr2 : Nat) (M : am_M), rc 1 r0 x1 x2 x3 x4 x5 x6 s0 s1 sr2 M = some (res, M') → AW u_Model_tables R_Model_tables 0 0 37 [(0, .ref r0), (1, .int x1), (2, .int x2)] [.int s0, .int s1, .ref sr2] M (fun r M2 => r = .inl none ∧ M2 = M')) (ih_2 : ∀ (r0 : Nat) (x1 : Int32) (x2 : Int32) (x3 : Int32) (x4 : Int32) (x5 : Int32) (x6 : Int32) (s0 : Int32) (s1 : Int32) (sr2 : Nat) (M : am_M), rc 2 r0 x1 x2 x3 x4 x5 x6 s0 s1 sr2 M = some (res, M') → AW u_Model_tables R_Model_tables 0 0 51 [(0, .ref r0), (1, .int x1), (2, .int x2)] [] M (fun r M2 => r = .inl none ∧ M2 = M')) (ih_3 : ∀ (r0 : Nat) (x1 : Int32) (x2 : Int32) (x3 : Int32) (x4 : Int32) (x5 : Int32) (x6 : Int32) (s0 : Int32) (s1 : Int32) (sr2 : Nat) (M : am_M), rc 3 r0 x1 x2 x3 x4 x5 x6 s0 s1 sr2 M = some (res, M') → AW u_Model_tables R_Model_tables 0 0 57 [(0, .ref r0), (1, .int x1), (2, .int x2), (3, .int x3)] [] M (fun r M2 => r = .inl none ∧ M2 = M')) (ih_4 : ∀ (r0 : Nat) (x1 : Int32) (x2 : Int32) (x3 : Int32) (x4 : Int32) (x5 : Int32) (x6 : Int32) (s0 : Int32) (s1 : Int32) (sr2 : Nat) (M : am_M), rc 4 r0 x1 x2 x3 x4 x5 x6 s0 s1 sr2 M = some (res, M') → AW u_Model_tables R_Model_tables 0 0 93 [(0, .ref r0), (1, .int x1), (2, .int x2), (3, .int x3)] [] M (fun r M2 => r = .inl none ∧ M2 = M')) (ih_5 : ∀ (r0 : Nat) (x1 : Int32) (x2 : Int32) (x3 : Int32) (x4 : Int32) (x5 : Int32) (x6 : Int32) (s0 : Int32) (s1 : Int32) (sr2 : Nat) (M : am_M), rc 5 r0 x1 x2 x3 x4 x5 x6 s0 s1 sr2 M = some (res, M') → AW u_Model_tables R_Model_tables 0 0 107 [(0, .ref r0), (1, .int x1), (2, .int x2), (3, .int x3), (4, .int x4), (5, .int x5), (6, .int x6)] [] M (fun r M2 => r = .inl none ∧ M2 = M')) (ih_6 : ∀ (r0 : Nat) (x1 : Int32) (x2 : Int32) (x3 : Int32) (x4 : Int32) (x5 : Int32) (x6 : Int32) (s0 : Int32) (s1 : Int32) (sr2 : Nat) (M : am_M), rc 6 r0 x1 x2 x3 x4 x5 x6 s0 s1 sr2 M = some (res, M') → AW u_Model_tables R_Model_tables 0 0 157 [(0, .ref r0), (1, .int x1), (2, .int x2), (3, .int x3), (5, .int x5)] [] M (fun r M2 => r = .inl none ∧ M2 = M')) (ih_7 : ∀ (r0 : Nat) (x1 : Int32) (x2 : Int32) (x3 : Int32) (x4 : Int32) (x5 : Int32) (x6 : Int32) (s0 : Int32) (s1 : Int32) (sr2 : Nat) (M : am_M), rc 7 r0 x1 x2 x3 x4 x5 x6 s0 s1 sr2 M = some (res, M') → AW u_Model_tables R_Model_tables 0 0 158 [(0, .ref r0), (1, .int x1), (2, .int x2), (3, .int x3), (5, .int x5)] [.int s0] M (fun r M2 => r = .inl none ∧ M2 = M')) (ih_8 : ∀ (r0 : Nat) (x1 : Int32) (x2 : Int32) (x3 : Int32) (x4 : Int32) (x5 : Int32) (x6 : Int32) (s0 : Int32) (s1 : Int32) (sr2 : Nat) (M : am_M), rc 8 r0 x1 x2 x3 x4 x5 x6 s0 s1 sr2 M = some (res, M') → AW u_Model_tables R_Model_tables 0 0 170 [(0, .ref r0), (1, .int x1), (2, .int x2), (3, .int x3), (4, .int x4), (5, .int x5)] [.int s0] M (fun r M2 => r = .inl none ∧ M2 = M')) (ih_9 : ∀ (r0 : Nat) (x1 : Int32) (x2 : Int32) (x3 : Int32) (x4 : Int32) (x5 : Int32) (x6 : Int32) (s0 : Int32) (s1 : Int32) (sr2 : Nat) (M : am_M), rc 9 r0 x1 x2 x3 x4 x5 x6 s0 s1 sr2 M = some (res, M') → AW u_Model_tables R_Model_tables 0 0 183 [(0, .ref r0), (1, .int x1), (2, .int x2), (3, .int x3), (4, .int x4)] [] M (fun r M2 => r = .inl none ∧ M2 = M')) : ∀ (r0 : Nat) (x1 : Int32) (x2 : Int32) (x3 : Int32) (x4 : Int32) (x5 : Int32) (x6 : Int32) (s0 : Int32) (s1 : Int32) (sr2 : Nat) (M : am_M), a_Model_tables_4 rc r0 x1 x2 x3 x4 x5 x6 s0 s1 sr2 M = some (res, M') → AW u_Model_tables R_Model_tables 0 0 93 [(0, .ref r0), (1, .int x1), (2, .int x2), (3, .int x3)] [] M (fun r M2 => r = .inl none ∧ M2 = M') := by
  intro r0 x1 x2 x3 x4 x5 x6 s0 s1 sr2 M h
  unfold a_Model_tables_4 at h
  refine aw_iload_n d_Model_tables_93 rfl rfl ?_
  refine aw_iload_n d_Model_tables_94 rfl rfl ?_
  refine aw_icmp_ge (tgt := 203) d_Model_tables_95 (by decide) (fun hc => ?_) (fun hc => ?_)
  · rw [if_pos hc] at h
    refine aw_iinc (v := (x2 + (-1 : Int32))) (ls' := [(2, .int _), (0, .ref _), (1, .int _), (3, .int _)]) d_Model_tables_203 rfl rfl (Nat.le_of_ble_eq_true rfl) rfl ?_
    refine aw_goto (tgt := 51) d_Model_tables_206 (by decide) ?_
    exact aw_pick [1, 2, 0] rfl (ih_2 _ _ _ _ _ _ _ _ _ _ _ h)
  · rw [if_neg hc] at h
    refine aw_iconst (v := 0) d_Model_tables_98 (by decide) ?_
    refine aw_istore (ls' := [(4, .int _), (0, .ref _), (1, .int _), (2, .int _), (3, .int _)]) d_Model_tables_99 (Nat.le_of_ble_eq_true rfl) rfl ?_
    refine aw_iload_n d_Model_tables_101 rfl rfl ?_
    refine aw_istore (ls' := [(5, .int _), (4, .int _), (0, .ref _), (1, .int _), (2, .int _), (3, .int _)]) d_Model_tables_102 (Nat.le_of_ble_eq_true rfl) rfl ?_
    refine aw_iconst (v := 1) d_Model_tables_104 (by decide) ?_
    refine aw_istore (ls' := [(6, .int _), (5, .int _), (4, .int _), (0, .ref _), (1, .int _), (2, .int _), (3, .int _)]) d_Model_tables_105 (Nat.le_of_ble_eq_true rfl) rfl ?_
    exact aw_pick [3, 4, 5, 6, 2, 1, 0] rfl (ih_5 _ _ _ _ _ _ _ _ _ _ _ h)
set_option maxHeartbeats 4000000 in
theorem s_Model_tables_5 {rc : Nat → Nat → Int32 → Int32 → Int32 → Int32 → Int32 → Int32 → Int32 → Int32 → Nat → am_M → Option (Unit × am_M)} {res : Unit} {M' : am_M} (ih_0 : ∀ (r0 : Nat) (x1 : Int32) (x2 : Int32) (x3 : Int32) (x4 : Int32) (x5 : Int32) (x6 : Int32) (s0 : Int32) (s1 : Int32) (sr2 : Nat) (M : am_M), rc 0 r0 x1 x2 x3 x4 x5 x6 s0 s1 sr2 M = some (res, M') → AW u_Model_tables R_Model_tables 0 0 9 [(0, .ref r0), (1, .int x1), (2, .int x2)] [] M (fun r M2 => r = .inl none ∧ M2 = M')) (ih_1 : ∀ (r0 : Nat) (x1 : Int32) (x2 : Int32) (x3 : Int32) (x4 : Int32) (x5 : Int32) (x6 : Int32) (s0 : Int32) (s1 : Int32) (sr2 : Nat) (M : am_M), rc 1 r0 x1 x2 x3 x4 x5 x6 s0 s1 sr2 M = some (res, M') → AW u_Model_tables R_Model_tables 0 0 37 [(0, .ref r0), (1, .int x1), (2, .int x2)] [.int s0, .int s1, .ref sr2] M (fun r M2 => r = .inl none ∧ M2 = M')) (ih_2 : ∀ (r0 : Nat) (x1 : Int32) (x2 : Int32) (x3 : Int32) (x4 : Int32) (x5 : Int32) (x6 : Int32) (s0 : Int32) (s1 : Int32) (sr2 : Nat) (M : am_M), rc 2 r0 x1 x2 x3 x4 x5 x6 s0 s1 sr2 M = some (res, M') → AW u_Model_tables R_Model_tables 0 0 51 [(0, .ref r0), (1, .int x1), (2, .int x2)] [] M (fun r M2 => r = .inl none ∧ M2 = M')) (ih_3 : ∀ (r0 : Nat) (x1 : Int32) (x2 : Int32) (x3 : Int32) (x4 : Int32) (x5 : Int32) (x6 : Int32) (s0 : Int32) (s1 : Int32) (sr2 : Nat) (M : am_M), rc 3 r0 x1 x2 x3 x4 x5 x6 s0 s1 sr2 M = some (res, M') → AW u_Model_tables R_Model_tables 0 0 57 [(0, .ref r0), (1, .int x1), (2, .int x2), (3, .int x3)] [] M (fun r M2 => r = .inl none ∧ M2 = M')) (ih_4 : ∀ (r0 : Nat) (x1 : Int32) (x2 : Int32) (x3 : Int32) (x4 : Int32) (x5 : Int32) (x6 : Int32) (s0 : Int32) (s1 : Int32) (sr2 : Nat) (M : am_M), rc 4 r0 x1 x2 x3 x4 x5 x6 s0 s1 sr2 M = some (res, M') → AW u_Model_tables R_Model_tables 0 0 93 [(0, .ref r0), (1, .int x1), (2, .int x2), (3, .int x3)] [] M (fun r M2 => r = .inl none ∧ M2 = M')) (ih_5 : ∀ (r0 : Nat) (x1 : Int32) (x2 : Int32) (x3 : Int32) (x4 : Int32) (x5 : Int32) (x6 : Int32) (s0 : Int32) (s1 : Int32) (sr2 : Nat) (M : am_M), rc 5 r0 x1 x2 x3 x4 x5 x6 s0 s1 sr2 M = some (res, M') → AW u_Model_tables R_Model_tables 0 0 107 [(0, .ref r0), (1, .int x1), (2, .int x2), (3, .int x3), (4, .int x4), (5, .int x5), (6, .int x6)] [] M (fun r M2 => r = .inl none ∧ M2 = M')) (ih_6 : ∀ (r0 : Nat) (x1 : Int32) (x2 : Int32) (x3 : Int32) (x4 : Int32) (x5 : Int32) (x6 : Int32) (s0 : Int32) (s1 : Int32) (sr2 : Nat) (M : am_M), rc 6 r0 x1 x2 x3 x4 x5 x6 s0 s1 sr2 M = some (res, M') → AW u_Model_tables R_Model_tables 0 0 157 [(0, .ref r0), (1, .int x1), (2, .int x2), (3, .int x3), (5, .int x5)] [] M (fun r M2 => r = .inl none ∧ M2 = M')) (ih_7 : ∀ (r0 : Nat) (x1 : Int32) (x2 : Int32) (x3 : Int32) (x4 : Int32) (x5 : Int32) (x6 : Int32) (s0 : Int32) (s1 : Int32) (sr2 : Nat) (M : am_M), rc 7 r0 x1 x2 x3 x4 x5 x6 s0 s1 sr2 M = some (res, M') → AW u_Model_tables R_Model_tables 0 0 158 [(0, .ref r0), (1, .int x1), (2, .int x2), (3, .int x3), (5, .int x5)] [.int s0] M (fun r M2 => r = .inl none ∧ M2 = M')) (ih_8 : ∀ (r0 : Nat) (x1 : Int32) (x2 : Int32) (x3 : Int32) (x4 : Int32) (x5 : Int32) (x6 : Int32) (s0 : Int32) (s1 : Int32) (sr2 : Nat) (M : am_M), rc 8 r0 x1 x2 x3 x4 x5 x6 s0 s1 sr2 M = some (res, M') → AW u_Model_tables R_Model_tables 0 0 170 [(0, .ref r0), (1, .int x1), (2, .int x2), (3, .int x3), (4, .int x4), (5, .int x5)] [.int s0] M (fun r M2 => r = .inl none ∧ M2 = M')) (ih_9 : ∀ (r0 : Nat) (x1 : Int32) (x2 : Int32) (x3 : Int32) (x4 : Int32) (x5 : Int32) (x6 : Int32) (s0 : Int32) (s1 : Int32) (sr2 : Nat) (M : am_M), rc 9 r0 x1 x2 x3 x4 x5 x6 s0 s1 sr2 M = some (res, M') → AW u_Model_tables R_Model_tables 0 0 183 [(0, .ref r0), (1, .int x1), (2, .int x2), (3, .int x3), (4, .int x4)] [] M (fun r M2 => r = .inl none ∧ M2 = M')) : ∀ (r0 : Nat) (x1 : Int32) (x2 : Int32) (x3 : Int32) (x4 : Int32) (x5 : Int32) (x6 : Int32) (s0 : Int32) (s1 : Int32) (sr2 : Nat) (M : am_M), a_Model_tables_5 rc r0 x1 x2 x3 x4 x5 x6 s0 s1 sr2 M = some (res, M') → AW u_Model_tables R_Model_tables 0 0 107 [(0, .ref r0), (1, .int x1), (2, .int x2), (3, .int x3), (4, .int x4), (5, .int x5), (6, .int x6)] [] M (fun r M2 => r = .inl none ∧ M2 = M') := by
  intro r0 x1 x2 x3 x4 x5 x6 s0 s1 sr2 M h
  unfold a_Model_tables_5 at h
  refine aw_iload d_Model_tables_107 rfl ?_
  refine aw_if_eq (tgt := 183) d_Model_tables_109 (by decide) (fun hc => ?_) (fun hc => ?_)
  · rw [if_pos hc] at h
    exact aw_pick [0, 1, 2, 3, 4] rfl (ih_9 _ _ _ _ _ _ _ _ _ _ _ h)
  · rw [if_neg hc] at h
    refine aw_iload d_Model_tables_112 rfl ?_
    refine aw_if_ne (tgt := 183) d_Model_tables_114 (by decide) (fun hc => ?_) (fun hc => ?_)
    · rw [if_neg hc] at h
      exact aw_pick [0, 1, 2, 3, 4] rfl (ih_9 _ _ _ _ _ _ _ _ _ _ _ h)
    · rw [if_pos hc] at h
      refine aw_aload_n d_Model_tables_117 rfl rfl ?_
      obtain ⟨t118, e_t118, h⟩ := q_bind h
      refine aw_gtr d_Model_tables_118 fl_Model_149 (Or.inr ⟨_, rfl⟩) e_t118 ?_
      refine aw_sipush (v := 4096) d_Model_tables_121 (by decide) ?_
      refine aw_iload_n d_Model_tables_124 rfl rfl ?_
      refine aw_imul d_Model_tables_125 ?_
      refine aw_iload d_Model_tables_126 rfl ?_
      refine aw_iadd d_Model_tables_128 ?_
      obtain ⟨t129, e_t129, h⟩ := q_bind h
      refine aw_ldz d_Model_tables_129 e_t129 ?_
      refine aw_if_eq (tgt := 157) d_Model_tables_130 (by decide) (fun hc => ?_) (fun hc => ?_)
      · rw [if_pos hc] at h
        exact aw_pick [0, 1, 2, 3, 5] rfl (ih_6 _ _ _ _ _ _ _ _ _ _ _ h)
      · rw [if_neg hc] at h
        refine aw_aload_n d_Model_tables_133 rfl rfl ?_
        obtain ⟨t134, e_t134, h⟩ := q_bind h
        refine aw_gtr d_Model_tables_134 fl_Model_152 (Or.inr ⟨_, rfl⟩) e_t134 ?_
        refine aw_sipush (v := 4096) d_Model_tables_137 (by decide) ?_
        refine aw_iload_n d_Model_tables_140 rfl rfl ?_
        refine aw_iconst (v := 1) d_Model_tables_141 (by decide) ?_
        refine aw_iadd d_Model_tables_142 ?_
        refine aw_imul d_Model_tables_143 ?_
        refine aw_iload_n d_Model_tables_144 rfl rfl ?_
        refine aw_iload d_Model_tables_145 rfl ?_
        refine aw_ixor d_Model_tables_147 ?_
        refine aw_iadd d_Model_tables_148 ?_
        obtain ⟨t149, e_t149, h⟩ := q_bind h
        refine aw_ldz d_Model_tables_149 e_t149 ?_
        refine aw_if_eq (tgt := 157) d_Model_tables_150 (by decide) (fun hc => ?_) (fun hc => ?_)
        · rw [if_pos hc] at h
          exact aw_pick [0, 1, 2, 3, 5] rfl (ih_6 _ _ _ _ _ _ _ _ _ _ _ h)
        · rw [if_neg hc] at h
          refine aw_iconst (v := 1) d_Model_tables_153 (by decide) ?_
          refine aw_goto (tgt := 158) d_Model_tables_154 (by decide) ?_
          exact aw_pick [0, 1, 2, 3, 5] rfl (ih_7 _ _ _ _ _ _ _ _ _ _ _ h)
set_option maxHeartbeats 4000000 in
theorem s_Model_tables_6 {rc : Nat → Nat → Int32 → Int32 → Int32 → Int32 → Int32 → Int32 → Int32 → Int32 → Nat → am_M → Option (Unit × am_M)} {res : Unit} {M' : am_M} (ih_0 : ∀ (r0 : Nat) (x1 : Int32) (x2 : Int32) (x3 : Int32) (x4 : Int32) (x5 : Int32) (x6 : Int32) (s0 : Int32) (s1 : Int32) (sr2 : Nat) (M : am_M), rc 0 r0 x1 x2 x3 x4 x5 x6 s0 s1 sr2 M = some (res, M') → AW u_Model_tables R_Model_tables 0 0 9 [(0, .ref r0), (1, .int x1), (2, .int x2)] [] M (fun r M2 => r = .inl none ∧ M2 = M')) (ih_1 : ∀ (r0 : Nat) (x1 : Int32) (x2 : Int32) (x3 : Int32) (x4 : Int32) (x5 : Int32) (x6 : Int32) (s0 : Int32) (s1 : Int32) (sr2 : Nat) (M : am_M), rc 1 r0 x1 x2 x3 x4 x5 x6 s0 s1 sr2 M = some (res, M') → AW u_Model_tables R_Model_tables 0 0 37 [(0, .ref r0), (1, .int x1), (2, .int x2)] [.int s0, .int s1, .ref sr2] M (fun r M2 => r = .inl none ∧ M2 = M')) (ih_2 : ∀ (r0 : Nat) (x1 : Int32) (x2 : Int32) (x3 : Int32) (x4 : Int32) (x5 : Int32) (x6 : Int32) (s0 : Int32) (s1 : Int32) (sr2 : Nat) (M : am_M), rc 2 r0 x1 x2 x3 x4 x5 x6 s0 s1 sr2 M = some (res, M') → AW u_Model_tables R_Model_tables 0 0 51 [(0, .ref r0), (1, .int x1), (2, .int x2)] [] M (fun r M2 => r = .inl none ∧ M2 = M')) (ih_3 : ∀ (r0 : Nat) (x1 : Int32) (x2 : Int32) (x3 : Int32) (x4 : Int32) (x5 : Int32) (x6 : Int32) (s0 : Int32) (s1 : Int32) (sr2 : Nat) (M : am_M), rc 3 r0 x1 x2 x3 x4 x5 x6 s0 s1 sr2 M = some (res, M') → AW u_Model_tables R_Model_tables 0 0 57 [(0, .ref r0), (1, .int x1), (2, .int x2), (3, .int x3)] [] M (fun r M2 => r = .inl none ∧ M2 = M')) (ih_4 : ∀ (r0 : Nat) (x1 : Int32) (x2 : Int32) (x3 : Int32) (x4 : Int32) (x5 : Int32) (x6 : Int32) (s0 : Int32) (s1 : Int32) (sr2 : Nat) (M : am_M), rc 4 r0 x1 x2 x3 x4 x5 x6 s0 s1 sr2 M = some (res, M') → AW u_Model_tables R_Model_tables 0 0 93 [(0, .ref r0), (1, .int x1), (2, .int x2), (3, .int x3)] [] M (fun r M2 => r = .inl none ∧ M2 = M')) (ih_5 : ∀ (r0 : Nat) (x1 : Int32) (x2 : Int32) (x3 : Int32) (x4 : Int32) (x5 : Int32) (x6 : Int32) (s0 : Int32) (s1 : Int32) (sr2 : Nat) (M : am_M), rc 5 r0 x1 x2 x3 x4 x5 x6 s0 s1 sr2 M = some (res, M') → AW u_Model_tables R_Model_tables 0 0 107 [(0, .ref r0), (1, .int x1), (2, .int x2), (3, .int x3), (4, .int x4), (5, .int x5), (6, .int x6)] [] M (fun r M2 => r = .inl none ∧ M2 = M')) (ih_6 : ∀ (r0 : Nat) (x1 : Int32) (x2 : Int32) (x3 : Int32) (x4 : Int32) (x5 : Int32) (x6 : Int32) (s0 : Int32) (s1 : Int32) (sr2 : Nat) (M : am_M), rc 6 r0 x1 x2 x3 x4 x5 x6 s0 s1 sr2 M = some (res, M') → AW u_Model_tables R_Model_tables 0 0 157 [(0, .ref r0), (1, .int x1), (2, .int x2), (3, .int x3), (5, .int x5)] [] M (fun r M2 => r = .inl none ∧ M2 = M')) (ih_7 : ∀ (r0 : Nat) (x1 : Int32) (x2 : Int32) (x3 : Int32) (x4 : Int32) (x5 : Int32) (x6 : Int32) (s0 : Int32) (s1 : Int32) (sr2 : Nat) (M : am_M), rc 7 r0 x1 x2 x3 x4 x5 x6 s0 s1 sr2 M = some (res, M') → AW u_Model_tables R_Model_tables 0 0 158 [(0, .ref r0), (1, .int x1), (2, .int x2), (3, .int x3), (5, .int x5)] [.int s0] M (fun r M2 => r = .inl none ∧ M2 = M')) (ih_8 : ∀ (r0 : Nat) (x1 : Int32) (x2 : Int32) (x3 : Int32) (x4 : Int32) (x5 : Int32) (x6 : Int32) (s0 : Int32) (s1 : Int32) (sr2 : Nat) (M : am_M), rc 8 r0 x1 x2 x3 x4 x5 x6 s0 s1 sr2 M = some (res, M') → AW u_Model_tables R_Model_tables 0 0 170 [(0, .ref r0), (1, .int x1), (2, .int x2), (3, .int x3), (4, .int x4), (5, .int x5)] [.int s0] M (fun r M2 => r = .inl none ∧ M2 = M')) (ih_9 : ∀ (r0 : Nat) (x1 : Int32) (x2 : Int32) (x3 : Int32) (x4 : Int32) (x5 : Int32) (x6 : Int32) (s0 : Int32) (s1 : Int32) (sr2 : Nat) (M : am_M), rc 9 r0 x1 x2 x3 x4 x5 x6 s0 s1 sr2 M = some (res, M') → AW u_Model_tables R_Model_tables 0 0 183 [(0, .ref r0), (1, .int x1), (2, .int x2), (3, .int x3), (4, .int x4)] [] M (fun r M2 => r = .inl none ∧ M2 = M')) : ∀ (r0 : Nat) (x1 : Int32) (x2 : Int32) (x3 : Int32) (x4 : Int32) (x5 : Int32) (x6 : Int32) (s0 : Int32) (s1 : Int32) (sr2 : Nat) (M : am_M), a_Model_tables_6 rc r0 x1 x2 x3 x4 x5 x6 s0 s1 sr2 M = some (res, M') → AW u_Model_tables R_Model_tables 0 0 157 [(0, .ref r0), (1, .int x1), (2, .int x2), (3, .int x3), (5, .int x5)] [] M (fun r M2 => r = .inl none ∧ M2 = M') := by
  intro r0 x1 x2 x3 x4 x5 x6 s0 s1 sr2 M h
  unfold a_Model_tables_6 at h
  refine aw_iconst (v := 0) d_Model_tables_157 (by decide) ?_
  exact aw_pick [0, 1, 2, 3, 4] rfl (ih_7 _ _ _ _ _ _ _ _ _ _ _ h)
set_option maxHeartbeats 4000000 in
theorem s_Model_tables_7 {rc : Nat → Nat → Int32 → Int32 → Int32 → Int32 → Int32 → Int32 → Int32 → Int32 → Nat → am_M → Option (Unit × am_M)} {res : Unit} {M' : am_M} (ih_0 : ∀ (r0 : Nat) (x1 : Int32) (x2 : Int32) (x3 : Int32) (x4 : Int32) (x5 : Int32) (x6 : Int32) (s0 : Int32) (s1 : Int32) (sr2 : Nat) (M : am_M), rc 0 r0 x1 x2 x3 x4 x5 x6 s0 s1 sr2 M = some (res, M') → AW u_Model_tables R_Model_tables 0 0 9 [(0, .ref r0), (1, .int x1), (2, .int x2)] [] M (fun r M2 => r = .inl none ∧ M2 = M')) (ih_1 : ∀ (r0 : Nat) (x1 : Int32) (x2 : Int32) (x3 : Int32) (x4 : Int32) (x5 : Int32) (x6 : Int32) (s0 : Int32) (s1 : Int32) (sr2 : Nat) (M : am_M), rc 1 r0 x1 x2 x3 x4 x5 x6 s0 s1 sr2 M = some (res, M') → AW u_Model_tables R_Model_tables 0 0 37 [(0, .ref r0), (1, .int x1), (2, .int x2)] [.int s0, .int s1, .ref sr2] M (fun r M2 => r = .inl none ∧ M2 = M')) (ih_2 : ∀ (r0 : Nat) (x1 : Int32) (x2 : Int32) (x3 : Int32) (x4 : Int32) (x5 : Int32) (x6 : Int32) (s0 : Int32) (s1 : Int32) (sr2 : Nat) (M : am_M), rc 2 r0 x1 x2 x3 x4 x5 x6 s0 s1 sr2 M = some (res, M') → AW u_Model_tables R_Model_tables 0 0 51 [(0, .ref r0), (1, .int x1), (2, .int x2)] [] M (fun r M2 => r = .inl none ∧ M2 = M')) (ih_3 : ∀ (r0 : Nat) (x1 : Int32) (x2 : Int32) (x3 : Int32) (x4 : Int32) (x5 : Int32) (x6 : Int32) (s0 : Int32) (s1 : Int32) (sr2 : Nat) (M : am_M), rc 3 r0 x1 x2 x3 x4 x5 x6 s0 s1 sr2 M = some (res, M') → AW u_Model_tables R_Model_tables 0 0 57 [(0, .ref r0), (1, .int x1), (2, .int x2), (3, .int x3)] [] M (fun r M2 => r = .inl none ∧ M2 = M')) (ih_4 : ∀ (r0 : Nat) (x1 : Int32) (x2 : Int32) (x3 : Int32) (x4 : Int32) (x5 : Int32) (x6 : Int32) (s0 : Int32) (s1 : Int32) (sr2 : Nat) (M : am_M), rc 4 r0 x1 x2 x3 x4 x5 x6 s0 s1 sr2 M = some (res, M') → AW u_Model_tables R_Model_tables 0 0 93 [(0, .ref r0), (1, .int x1), (2, .int x2), (3, .int x3)] [] M (fun r M2 => r = .inl none ∧ M2 = M')) (ih_5 : ∀ (r0 : Nat) (x1 : Int32) (x2 : Int32) (x3 : Int32) (x4 : Int32) (x5 : Int32) (x6 : Int32) (s0 : Int32) (s1 : Int32) (sr2 : Nat) (M : am_M), rc 5 r0 x1 x2 x3 x4 x5 x6 s0 s1 sr2 M = some (res, M') → AW u_Model_tables R_Model_tables 0 0 107 [(0, .ref r0), (1, .int x1), (2, .int x2), (3, .int x3), (4, .int x4), (5, .int x5), (6, .int x6)] [] M (fun r M2 => r = .inl none ∧ M2 = M')) (ih_6 : ∀ (r0 : Nat) (x1 : Int32) (x2 : Int32) (x3 : Int32) (x4 : Int32) (x5 : Int32) (x6 : Int32) (s0 : Int32) (s1 : Int32) (sr2 : Nat) (M : am_M), rc 6 r0 x1 x2 x3 x4 x5 x6 s0 s1 sr2 M = some (res, M') → AW u_Model_tables R_Model_tables 0 0 157 [(0, .ref r0), (1, .int x1), (2, .int x2), (3, .int x3), (5, .int x5)] [] M (fun r M2 => r = .inl none ∧ M2 = M')) (ih_7 : ∀ (r0 : Nat) (x1 : Int32) (x2 : Int32) (x3 : Int32) (x4 : Int32) (x5 : Int32) (x6 : Int32) (s0 : Int32) (s1 : Int32) (sr2 : Nat) (M : am_M), rc 7 r0 x1 x2 x3 x4 x5 x6 s0 s1 sr2 M = some (res, M') → AW u_Model_tables R_Model_tables 0 0 158 [(0, .ref r0), (1, .int x1), (2, .int x2), (3, .int x3), (5, .int x5)] [.int s0] M (fun r M2 => r = .inl none ∧ M2 = M')) (ih_8 : ∀ (r0 : Nat) (x1 : Int32) (x2 : Int32) (x3 : Int32) (x4 : Int32) (x5 : Int32) (x6 : Int32) (s0 : Int32) (s1 : Int32) (sr2 : Nat) (M : am_M), rc 8 r0 x1 x2 x3 x4 x5 x6 s0 s1 sr2 M = some (res, M') → AW u_Model_tables R_Model_tables 0 0 170 [(0, .ref r0), (1, .int x1), (2, .int x2), (3, .int x3), (4, .int x4), (5, .int x5)] [.int s0] M (fun r M2 => r = .inl none ∧ M2 = M')) (ih_9 : ∀ (r0 : Nat) (x1 : Int32) (x2 : Int32) (x3 : Int32) (x4 : Int32) (x5 : Int32) (x6 : Int32) (s0 : Int32) (s1 : Int32) (sr2 : Nat) (M : am_M), rc 9 r0 x1 x2 x3 x4 x5 x6 s0 s1 sr2 M = some (res, M') → AW u_Model_tables R_Model_tables 0 0 183 [(0, .ref r0), (1, .int x1), (2, .int x2), (3, .int x3), (4, .int x4)] [] M (fun r M2 => r = .inl none ∧ M2 = M')) : ∀ (r0 : Nat) (x1 : Int32) (x2 : Int32) (x3 : Int32) (x4 : Int32) (x5 : Int32) (x6 : Int32) (s0 : Int32) (s1 : Int32) (sr2 : Nat) (M : am_M), a_Model_tables_7 rc r0 x1 x2 x3 x4 x5 x6 s0 s1 sr2 M = some (res, M') → AW u_Model_tables R_Model_tables 0 0 158 [(0, .ref r0), (1, .int x1), (2, .int x2), (3, .int x3), (5, .int x5)] [.int s0] M (fun r M2 => r = .inl none ∧ M2 = M') := by
  intro r0 x1 x2 x3 x4 x5 x6 s0 s1 sr2 M h
  unfold a_Model_tables_7 at h
  refine aw_istore (ls' := [(4, .int _), (0, .ref _), (1, .int _), (2, .int _), (3, .int _), (5, .int _)]) d_Model_tables_158 (Nat.le_of_ble_eq_true rfl) rfl ?_
  refine aw_iload d_Model_tables_160 rfl ?_
  refine aw_if_le (tgt := 169) d_Model_tables_162 (by decide) (fun hc => ?_) (fun hc => ?_)
  · rw [if_pos hc] at h
    refine aw_iconst (v := 0) d_Model_tables_169 (by decide) ?_
    exact aw_pick [1, 2, 3, 4, 0, 5] rfl (ih_8 _ _ _ _ _ _ _ _ _ _ _ h)
  · rw [if_neg hc] at h
    refine aw_iconst (v := 1) d_Model_tables_165 (by decide) ?_
    refine aw_goto (tgt := 170) d_Model_tables_166 (by decide) ?_
    exact aw_pick [1, 2, 3, 4, 0, 5] rfl (ih_8 _ _ _ _ _ _ _ _ _ _ _ h)
set_option maxHeartbeats 4000000 in
theorem s_Model_tables_8 {rc : Nat → Nat → Int32 → Int32 → Int32 → Int32 → Int32 → Int32 → Int32 → Int32 → Nat → am_M → Option (Unit × am_M)} {res : Unit} {M' : am_M} (ih_0 : ∀ (r0 : Nat) (x1 : Int32) (x2 : Int32) (x3 : Int32) (x4 : Int32) (x5 : Int32) (x6 : Int32) (s0 : Int32) (s1 : Int32) (sr2 : Nat) (M : am_M), rc 0 r0 x1 x2 x3 x4 x5 x6 s0 s1 sr2 M = some (res, M') → AW u_Model_tables R_Model_tables 0 0 9 [(0, .ref r0), (1, .int x1), (2, .int x2)] [] M (fun r M2 => r = .inl none ∧ M2 = M')) (ih_1 : ∀ (r0 : Nat) (x1 : Int32) (x2 : Int32) (x3 : Int32) (x4 : Int32) (x5 : Int32) (x6 : Int32) (s0 : Int32) (s1 : Int32) (sr2 : Nat) (M : am_M), rc 1 r0 x1 x2 x3 x4 x5 x6 s0 s1 sr2 M = some (res, M') → AW u_Model_tables R_Model_tables 0 0 37 [(0, .ref r0), (1, .int x1), (2, .int x2)] [.int s0, .int s1, .ref sr2] M (fun r M2 => r = .inl none ∧ M2 = M')) (ih_2 : ∀ (r0 : Nat) (x1 : Int32) (x2 : Int32) (x3 : Int32) (x4 : Int32) (x5 : Int32) (x6 : Int32) (s0 : Int32) (s1 : Int32) (sr2 : Nat) (M : am_M), rc 2 r0 x1 x2 x3 x4 x5 x6 s0 s1 sr2 M = some (res, M') → AW u_Model_tables R_Model_tables 0 0 51 [(0, .ref r0), (1, .int x1), (2, .int x2)] [] M (fun r M2 => r = .inl none ∧ M2 = M')) (ih_3 : ∀ (r0 : Nat) (x1 : Int32) (x2 : Int32) (x3 : Int32) (x4 : Int32) (x5 : Int32) (x6 : Int32) (s0 : Int32) (s1 : Int32) (sr2 : Nat) (M : am_M), rc 3 r0 x1 x2 x3 x4 x5 x6 s0 s1 sr2 M = some (res, M') → AW u_Model_tables R_Model_tables 0 0 57 [(0, .ref r0), (1, .int x1), (2, .int x2), (3, .int x3)] [] M (fun r M2 => r = .inl none ∧ M2 = M')) (ih_4 : ∀ (r0 : Nat) (x1 : Int32) (x2 : Int32) (x3 : Int32) (x4 : Int32) (x5 : Int32) (x6 : Int32) (s0 : Int32) (s1 : Int32) (sr2 : Nat) (M : am_M), rc 4 r0 x1 x2 x3 x4 x5 x6 s0 s1 sr2 M = some (res, M') → AW u_Model_tables R_Model_tables 0 0 93 [(0, .ref r0), (1, .int x1), (2, .int x2), (3, .int x3)] [] M (fun r M2 => r = .inl none ∧ M2 = M')) (ih_5 : ∀ (r0 : Nat) (x1 : Int32) (x2 : Int32) (x3 : Int32) (x4 : Int32) (x5 : Int32) (x6 : Int32) (s0 : Int32) (s1 : Int32) (sr2 : Nat) (M : am_M), rc 5 r0 x1 x2 x3 x4 x5 x6 s0 s1 sr2 M = some (res, M') → AW u_Model_tables R_Model_tables 0 0 107 [(0, .ref r0), (1, .int x1), (2, .int x2), (3, .int x3), (4, .int x4), (5, .int x5), (6, .int x6)] [] M (fun r M2 => r = .inl none ∧ M2 = M')) (ih_6 : ∀ (r0 : Nat) (x1 : Int32) (x2 : Int32) (x3 : Int32) (x4 : Int32) (x5 : Int32) (x6 : Int32) (s0 : Int32) (s1 : Int32) (sr2 : Nat) (M : am_M), rc 6 r0 x1 x2 x3 x4 x5 x6 s0 s1 sr2 M = some (res, M') → AW u_Model_tables R_Model_tables 0 0 157 [(0, .ref r0), (1, .int x1), (2, .int x2), (3, .int x3), (5, .int x5)] [] M (fun r M2 => r = .inl none ∧ M2 = M')) (ih_7 : ∀ (r0 : Nat) (x1 : Int32) (x2 : Int32) (x3 : Int32) (x4 : Int32) (x5 : Int32) (x6 : Int32) (s0 : Int32) (s1 : Int32) (sr2 : Nat) (M : am_M), rc 7 r0 x1 x2 x3 x4 x5 x6 s0 s1 sr2 M = some (res, M') → AW u_Model_tables R_Model_tables 0 0 158 [(0, .ref r0), (1, .int x1), (2, .int x2), (3, .int x3), (5, .int x5)] [.int s0] M (fun r M2 => r = .inl none ∧ M2 = M')) (ih_8 : ∀ (r0 : Nat) (x1 : Int32) (x2 : Int32) (x3 : Int32) (x4 : Int32) (x5 : Int32) (x6 : Int32) (s0 : Int32) (s1 : Int32) (sr2 : Nat) (M : am_M), rc 8 r0 x1 x2 x3 x4 x5 x6 s0 s1 sr2 M = some (res, M') → AW u_Model_tables R_Model_tables 0 0 170 [(0, .ref r0), (1, .int x1), (2, .int x2), (3, .int x3), (4, .int x4), (5, .int x5)] [.int s0] M (fun r M2 => r = .inl none ∧ M2 = M')) (ih_9 : ∀ (r0 : Nat) (x1 : Int32) (x2 : Int32) (x3 : Int32) (x4 : Int32) (x5 : Int32) (x6 : Int32) (s0 : Int32) (s1 : Int32) (sr2 : Nat) (M : am_M), rc 9 r0 x1 x2 x3 x4 x5 x6 s0 s1 sr2 M = some (res, M') → AW u_Model_tables R_Model_tables 0 0 183 [(0, .ref r0), (1, .int x1), (2, .int x2), (3, .int x3), (4, .int x4)] [] M (fun r M2 => r = .inl none ∧ M2 = M')) : ∀ (r0 : Nat) (x1 : Int32) (x2 : Int32) (x3 : Int32) (x4 : Int32) (x5 : Int32) (x6 : Int32) (s0 : Int32) (s1 : Int32) (sr2 : Nat) (M : am_M), a_Model_tables_8 rc r0 x1 x2 x3 x4 x5 x6 s0 s1 sr2 M = some (res, M') → AW u_Model_tables R_Model_tables 0 0 170 [(0, .ref r0), (1, .int x1), (2, .int x2), (3, .int x3), (4, .int x4), (5, .int x5)] [.int s0] M (fun r M2 => r = .inl none ∧ M2 = M') := by
  intro r0 x1 x2 x3 x4 x5 x6 s0 s1 sr2 M h
  unfold a_Model_tables_8 at h
  refine aw_istore (ls' := [(6, .int _), (0, .ref _), (1, .int _), (2, .int _), (3, .int _), (4, .int _), (5, .int _)]) d_Model_tables_170 (Nat.le_of_ble_eq_true rfl) rfl ?_
  refine aw_iload d_Model_tables_172 rfl ?_
  refine aw_iconst (v := 1) d_Model_tables_174 (by decide) ?_
  refine aw_isub d_Model_tables_175 ?_
  refine aw_iload_n d_Model_tables_176 rfl rfl ?_
  refine aw_iand d_Model_tables_177 ?_
  refine aw_istore (ls' := [(5, .int _), (6, .int _), (0, .ref _), (1, .int _), (2, .int _), (3, .int _), (4, .int _)]) d_Model_tables_178 (Nat.le_of_ble_eq_true rfl) rfl ?_
  refine aw_goto (tgt := 107) d_Model_tables_180 (by decide) ?_
  exact aw_pick [2, 3, 4, 5, 6, 0, 1] rfl (ih_5 _ _ _ _ _ _ _ _ _ _ _ h)
set_option maxHeartbeats 4000000 in
theorem s_Model_tables_9 {rc : Nat → Nat → Int32 → Int32 → Int32 → Int32 → Int32 → Int32 → Int32 → Int32 → Nat → am_M → Option (Unit × am_M)} {res : Unit} {M' : am_M} (ih_0 : ∀ (r0 : Nat) (x1 : Int32) (x2 : Int32) (x3 : Int32) (x4 : Int32) (x5 : Int32) (x6 : Int32) (s0 : Int32) (s1 : Int32) (sr2 : Nat) (M : am_M), rc 0 r0 x1 x2 x3 x4 x5 x6 s0 s1 sr2 M = some (res, M') → AW u_Model_tables R_Model_tables 0 0 9 [(0, .ref r0), (1, .int x1), (2, .int x2)] [] M (fun r M2 => r = .inl none ∧ M2 = M')) (ih_1 : ∀ (r0 : Nat) (x1 : Int32) (x2 : Int32) (x3 : Int32) (x4 : Int32) (x5 : Int32) (x6 : Int32) (s0 : Int32) (s1 : Int32) (sr2 : Nat) (M : am_M), rc 1 r0 x1 x2 x3 x4 x5 x6 s0 s1 sr2 M = some (res, M') → AW u_Model_tables R_Model_tables 0 0 37 [(0, .ref r0), (1, .int x1), (2, .int x2)] [.int s0, .int s1, .ref sr2] M (fun r M2 => r = .inl none ∧ M2 = M')) (ih_2 : ∀ (r0 : Nat) (x1 : Int32) (x2 : Int32) (x3 : Int32) (x4 : Int32) (x5 : Int32) (x6 : Int32) (s0 : Int32) (s1 : Int32) (sr2 : Nat) (M : am_M), rc 2 r0 x1 x2 x3 x4 x5 x6 s0 s1 sr2 M = some (res, M') → AW u_Model_tables R_Model_tables 0 0 51 [(0, .ref r0), (1, .int x1), (2, .int x2)] [] M (fun r M2 => r = .inl none ∧ M2 = M')) (ih_3 : ∀ (r0 : Nat) (x1 : Int32) (x2 : Int32) (x3 : Int32) (x4 : Int32) (x5 : Int32) (x6 : Int32) (s0 : Int32) (s1 : Int32) (sr2 : Nat) (M : am_M), rc 3 r0 x1 x2 x3 x4 x5 x6 s0 s1 sr2 M = some (res, M') → AW u_Model_tables R_Model_tables 0 0 57 [(0, .ref r0), (1, .int x1), (2, .int x2), (3, .int x3)] [] M (fun r M2 => r = .inl none ∧ M2 = M')) (ih_4 : ∀ (r0 : Nat) (x1 : Int32) (x2 : Int32) (x3 : Int32) (x4 : Int32) (x5 : Int32) (x6 : Int32) (s0 : Int32) (s1 : Int32) (sr2 : Nat) (M : am_M), rc 4 r0 x1 x2 x3 x4 x5 x6 s0 s1 sr2 M = some (res, M') → AW u_Model_tables R_Model_tables 0 0 93 [(0, .ref r0), (1, .int x1), (2, .int x2), (3, .int x3)] [] M (fun r M2 => r = .inl none ∧ M2 = M')) (ih_5 : ∀ (r0 : Nat) (x1 : Int32) (x2 : Int32) (x3 : Int32) (x4 : Int32) (x5 : Int32) (x6 : Int32) (s0 : Int32) (s1 : Int32) (sr2 : Nat) (M : am_M), rc 5 r0 x1 x2 x3 x4 x5 x6 s0 s1 sr2 M = some (res, M') → AW u_Model_tables R_Model_tables 0 0 107 [(0, .ref r0), (1, .int x1), (2, .int x2), (3, .int x3), (4, .int x4), (5, .int x5), (6, .int x6)] [] M (fun r M2 => r = .inl none ∧ M2 = M')) (ih_6 : ∀ (r0 : Nat) (x1 : Int32) (x2 : Int32) (x3 : Int32) (x4 : Int32) (x5 : Int32) (x6 : Int32) (s0 : Int32) (s1 : Int32) (sr2 : Nat) (M : am_M), rc 6 r0 x1 x2 x3 x4 x5 x6 s0 s1 sr2 M = some (res, M') → AW u_Model_tables R_Model_tables 0 0 157 [(0, .ref r0), (1, .int x1), (2, .int x2), (3, .int x3), (5, .int x5)] [] M (fun r M2 => r = .inl none ∧ M2 = M')) (ih_7 : ∀ (r0 : Nat) (x1 : Int32) (x2 : Int32) (x3 : Int32) (x4 : Int32) (x5 : Int32) (x6 : Int32) (s0 : Int32) (s1 : Int32) (sr2 : Nat) (M : am_M), rc 7 r0 x1 x2 x3 x4 x5 x6 s0 s1 sr2 M = some (res, M') → AW u_Model_tables R_Model_tables 0 0 158 [(0, .ref r0), (1, .int x1), (2, .int x2), (3, .int x3), (5, .int x5)] [.int s0] M (fun r M2 => r = .inl none ∧ M2 = M')) (ih_8 : ∀ (r0 : Nat) (x1 : Int32) (x2 : Int32) (x3 : Int32) (x4 : Int32) (x5 : Int32) (x6 : Int32) (s0 : Int32) (s1 : Int32) (sr2 : Nat) (M : am_M), rc 8 r0 x1 x2 x3 x4 x5 x6 s0 s1 sr2 M = some (res, M') → AW u_Model_tables R_Model_tables 0 0 170 [(0, .ref r0), (1, .int x1), (2, .int x2), (3, .int x3), (4, .int x4), (5, .int x5)] [.int s0] M (fun r M2 => r = .inl none ∧ M2 = M')) (ih_9 : ∀ (r0 : Nat) (x1 : Int32) (x2 : Int32) (x3 : Int32) (x4 : Int32) (x5 : Int32) (x6 : Int32) (s0 : Int32) (s1 : Int32) (sr2 : Nat) (M : am_M), rc 9 r0 x1 x2 x3 x4 x5 x6 s0 s1 sr2 M = some (res, M') → AW u_Model_tables R_Model_tables 0 0 183 [(0, .ref r0), (1, .int x1), (2, .int x2), (3, .int x3), (4, .int x4)] [] M (fun r M2 => r = .inl none ∧ M2 = M')) : ∀ (r0 : Nat) (x1 : Int32) (x2 : Int32) (x3 : Int32) (x4 : Int32) (x5 : Int32) (x6 : Int32) (s0 : Int32) (s1 : Int32) (sr2 : Nat) (M : am_M), a_Model_tables_9 rc r0 x1 x2 x3 x4 x5 x6 s0 s1 sr2 M = some (res, M') → AW u_Model_tables R_Model_tables 0 0 183 [(0, .ref r0), (1, .int x1), (2, .int x2), (3, .int x3), (4, .int x4)] [] M (fun r M2 => r = .inl none ∧ M2 = M') := by
  intro r0 x1 x2 x3 x4 x5 x6 s0 s1 sr2 M h
  unfold a_Model_tables_9 at h
  refine aw_aload_n d_Model_tables_183 rfl rfl ?_
  obtain ⟨t184, e_t184, h⟩ := q_bind h
  refine aw_gtr d_Model_tables_184 fl_Model_152 (Or.inr ⟨_, rfl⟩) e_t184 ?_
  refine aw_sipush (v := 4096) d_Model_tables_187 (by decide) ?_
  refine aw_iload_n d_Model_tables_190 rfl rfl ?_
  refine aw_imul d_Model_tables_191 ?_
  refine aw_iload_n d_Model_tables_192 rfl rfl ?_
  refine aw_iadd d_Model_tables_193 ?_
  refine aw_iload d_Model_tables_194 rfl ?_
  obtain ⟨M196, e_M196, h⟩ := q_bind h
  refine aw_stz d_Model_tables_196 e_M196 ?_
  refine aw_iinc (v := (x3 + (1 : Int32))) (ls' := [(3, .int _), (0, .ref _), (1, .int _), (2, .int _), (4, .int _)]) d_Model_tables_197 rfl rfl (Nat.le_of_ble_eq_true rfl) rfl ?_
  refine aw_goto (tgt := 93) d_Model_tables_200 (by decide) ?_
  exact aw_pick [1, 2, 3, 0] rfl (ih_4 _ _ _ _ _ _ _ _ _ _ _ h)
theorem l_Model_tables {res : Unit} {M' : am_M} : ∀ F : Nat, (∀ (r0 : Nat) (x1 : Int32) (x2 : Int32) (x3 : Int32) (x4 : Int32) (x5 : Int32) (x6 : Int32) (s0 : Int32) (s1 : Int32) (sr2 : Nat) (M : am_M), g_Model_tables F 0 r0 x1 x2 x3 x4 x5 x6 s0 s1 sr2 M = some (res, M') → AW u_Model_tables R_Model_tables 0 0 9 [(0, .ref r0), (1, .int x1), (2, .int x2)] [] M (fun r M2 => r = .inl none ∧ M2 = M')) ∧ (∀ (r0 : Nat) (x1 : Int32) (x2 : Int32) (x3 : Int32) (x4 : Int32) (x5 : Int32) (x6 : Int32) (s0 : Int32) (s1 : Int32) (sr2 : Nat) (M : am_M), g_Model_tables F 1 r0 x1 x2 x3 x4 x5 x6 s0 s1 sr2 M = some (res, M') → AW u_Model_tables R_Model_tables 0 0 37 [(0, .ref r0), (1, .int x1), (2, .int x2)] [.int s0, .int s1, .ref sr2] M (fun r M2 => r = .inl none ∧ M2 = M')) ∧ (∀ (r0 : Nat) (x1 : Int32) (x2 : Int32) (x3 : Int32) (x4 : Int32) (x5 : Int32) (x6 : Int32) (s0 : Int32) (s1 : Int32) (sr2 : Nat) (M : am_M), g_Model_tables F 2 r0 x1 x2 x3 x4 x5 x6 s0 s1 sr2 M = some (res, M') → AW u_Model_tables R_Model_tables 0 0 51 [(0, .ref r0), (1, .int x1), (2, .int x2)] [] M (fun r M2 => r = .inl none ∧ M2 = M')) ∧ (∀ (r0 : Nat) (x1 : Int32) (x2 : Int32) (x3 : Int32) (x4 : Int32) (x5 : Int32) (x6 : Int32) (s0 : Int32) (s1 : Int32) (sr2 : Nat) (M : am_M), g_Model_tables F 3 r0 x1 x2 x3 x4 x5 x6 s0 s1 sr2 M = some (res, M') → AW u_Model_tables R_Model_tables 0 0 57 [(0, .ref r0), (1, .int x1), (2, .int x2), (3, .int x3)] [] M (fun r M2 => r = .inl none ∧ M2 = M')) ∧ (∀ (r0 : Nat) (x1 : Int32) (x2 : Int32) (x3 : Int32) (x4 : Int32) (x5 : Int32) (x6 : Int32) (s0 : Int32) (s1 : Int32) (sr2 : Nat) (M : am_M), g_Model_tables F 4 r0 x1 x2 x3 x4 x5 x6 s0 s1 sr2 M = some (res, M') → AW u_Model_tables R_Model_tables 0 0 93 [(0, .ref r0), (1, .int x1), (2, .int x2), (3, .int x3)] [] M (fun r M2 => r = .inl none ∧ M2 = M')) ∧ (∀ (r0 : Nat) (x1 : Int32) (x2 : Int32) (x3 : Int32) (x4 : Int32) (x5 : Int32) (x6 : Int32) (s0 : Int32) (s1 : Int32) (sr2 : Nat) (M : am_M), g_Model_tables F 5 r0 x1 x2 x3 x4 x5 x6 s0 s1 sr2 M = some (res, M') → AW u_Model_tables R_Model_tables 0 0 107 [(0, .ref r0), (1, .int x1), (2, .int x2), (3, .int x3), (4, .int x4), (5, .int x5), (6, .int x6)] [] M (fun r M2 => r = .inl none ∧ M2 = M')) ∧ (∀ (r0 : Nat) (x1 : Int32) (x2 : Int32) (x3 : Int32) (x4 : Int32) (x5 : Int32) (x6 : Int32) (s0 : Int32) (s1 : Int32) (sr2 : Nat) (M : am_M), g_Model_tables F 6 r0 x1 x2 x3 x4 x5 x6 s0 s1 sr2 M = some (res, M') → AW u_Model_tables R_Model_tables 0 0 157 [(0, .ref r0), (1, .int x1), (2, .int x2), (3, .int x3), (5, .int x5)] [] M (fun r M2 => r = .inl none ∧ M2 = M')) ∧ (∀ (r0 : Nat) (x1 : Int32) (x2 : Int32) (x3 : Int32) (x4 : Int32) (x5 : Int32) (x6 : Int32) (s0 : Int32) (s1 : Int32) (sr2 : Nat) (M : am_M), g_Model_tables F 7 r0 x1 x2 x3 x4 x5 x6 s0 s1 sr2 M = some (res, M') → AW u_Model_tables R_Model_tables 0 0 158 [(0, .ref r0), (1, .int x1), (2, .int x2), (3, .int x3), (5, .int x5)] [.int s0] M (fun r M2 => r = .inl none ∧ M2 = M')) ∧ (∀ (r0 : Nat) (x1 : Int32) (x2 : Int32) (x3 : Int32) (x4 : Int32) (x5 : Int32) (x6 : Int32) (s0 : Int32) (s1 : Int32) (sr2 : Nat) (M : am_M), g_Model_tables F 8 r0 x1 x2 x3 x4 x5 x6 s0 s1 sr2 M = some (res, M') → AW u_Model_tables R_Model_tables 0 0 170 [(0, .ref r0), (1, .int x1), (2, .int x2), (3, .int x3), (4, .int x4), (5, .int x5)] [.int s0] M (fun r M2 => r = .inl none ∧ M2 = M')) ∧ (∀ (r0 : Nat) (x1 : Int32) (x2 : Int32) (x3 : Int32) (x4 : Int32) (x5 : Int32) (x6 : Int32) (s0 : Int32) (s1 : Int32) (sr2 : Nat) (M : am_M), g_Model_tables F 9 r0 x1 x2 x3 x4 x5 x6 s0 s1 sr2 M = some (res, M') → AW u_Model_tables R_Model_tables 0 0 183 [(0, .ref r0), (1, .int x1), (2, .int x2), (3, .int x3), (4, .int x4)] [] M (fun r M2 => r = .inl none ∧ M2 = M')) := by
  intro F
  induction F with
  | zero => exact ⟨fun _ _ _ _ _ _ _ _ _ _ _  h => (by cases h), fun _ _ _ _ _ _ _ _ _ _ _  h => (by cases h), fun _ _ _ _ _ _ _ _ _ _ _  h => (by cases h), fun _ _ _ _ _ _ _ _ _ _ _  h => (by cases h), fun _ _ _ _ _ _ _ _ _ _ _  h => (by cases h), fun _ _ _ _ _ _ _ _ _ _ _  h => (by cases h), fun _ _ _ _ _ _ _ _ _ _ _  h => (by cases h), fun _ _ _ _ _ _ _ _ _ _ _  h => (by cases h), fun _ _ _ _ _ _ _ _ _ _ _  h => (by cases h), fun _ _ _ _ _ _ _ _ _ _ _  h => (by cases h)⟩
  | succ F ih =>
    obtain ⟨ih0, ih1, ih2, ih3, ih4, ih5, ih6, ih7, ih8, ih9⟩ := ih
    exact ⟨s_Model_tables_0 ih0 ih1 ih2 ih3 ih4 ih5 ih6 ih7 ih8 ih9, s_Model_tables_1 ih0 ih1 ih2 ih3 ih4 ih5 ih6 ih7 ih8 ih9, s_Model_tables_2 ih0 ih1 ih2 ih3 ih4 ih5 ih6 ih7 ih8 ih9, s_Model_tables_3 ih0 ih1 ih2 ih3 ih4 ih5 ih6 ih7 ih8 ih9, s_Model_tables_4 ih0 ih1 ih2 ih3 ih4 ih5 ih6 ih7 ih8 ih9, s_Model_tables_5 ih0 ih1 ih2 ih3 ih4 ih5 ih6 ih7 ih8 ih9, s_Model_tables_6 ih0 ih1 ih2 ih3 ih4 ih5 ih6 ih7 ih8 ih9, s_Model_tables_7 ih0 ih1 ih2 ih3 ih4 ih5 ih6 ih7 ih8 ih9, s_Model_tables_8 ih0 ih1 ih2 ih3 ih4 ih5 ih6 ih7 ih8 ih9, s_Model_tables_9 ih0 ih1 ih2 ih3 ih4 ih5 ih6 ih7 ih8 ih9⟩
set_option maxHeartbeats 4000000 in
theorem mt_Model_tables {M : am_M} {a0 : Nat} {res : Unit} {M' : am_M} (h : f_Model_tables M a0 = some (res, M')) : AMet y_Model_tables u_Model_tables R_Model_tables [.ref a0] M (fun r M2 => r = .inl none ∧ M2 = M') := by
  refine am_met (by decide +kernel) w_Model_tables rfl rfl (Nat.le_of_ble_eq_true rfl) ?_
  show AW u_Model_tables R_Model_tables 0 0 0 [(0, .ref a0)] [] M (fun r M2 => r = .inl none ∧ M2 = M')
  have ih_0 := (l_Model_tables (res := res) (M' := M') 1000000000).1
  have ih_1 := (l_Model_tables (res := res) (M' := M') 1000000000).2.1
  have ih_2 := (l_Model_tables (res := res) (M' := M') 1000000000).2.2.1
  have ih_3 := (l_Model_tables (res := res) (M' := M') 1000000000).2.2.2.1
  have ih_4 := (l_Model_tables (res := res) (M' := M') 1000000000).2.2.2.2.1
  have ih_5 := (l_Model_tables (res := res) (M' := M') 1000000000).2.2.2.2.2.1
  have ih_6 := (l_Model_tables (res := res) (M' := M') 1000000000).2.2.2.2.2.2.1
  have ih_7 := (l_Model_tables (res := res) (M' := M') 1000000000).2.2.2.2.2.2.2.1
  have ih_8 := (l_Model_tables (res := res) (M' := M') 1000000000).2.2.2.2.2.2.2.2.1
  have ih_9 := (l_Model_tables (res := res) (M' := M') 1000000000).2.2.2.2.2.2.2.2.2
  unfold f_Model_tables at h
  unfold e_Model_tables at h
  generalize g_Model_tables 1000000000 = rc at h ih_0 ih_1 ih_2 ih_3 ih_4 ih_5 ih_6 ih_7 ih_8 ih_9
  refine aw_iconst (v := 1) d_Model_tables_0 (by decide) ?_
  refine aw_aload_n d_Model_tables_1 rfl rfl ?_
  obtain ⟨t2, e_t2, h⟩ := q_bind h
  refine aw_gti d_Model_tables_2 fl_Model_255 (Or.inl rfl) e_t2 ?_
  refine aw_ishl d_Model_tables_5 ?_
  refine aw_istore_n (ls' := [(1, .int _), (0, .ref _)]) d_Model_tables_6 rfl (Nat.le_of_ble_eq_true rfl) rfl ?_
  refine aw_iconst (v := 0) d_Model_tables_7 (by decide) ?_
  refine aw_istore_n (ls' := [(2, .int _), (1, .int _), (0, .ref _)]) d_Model_tables_8 rfl (Nat.le_of_ble_eq_true rfl) rfl ?_
  exact aw_pick [2, 1, 0] rfl (ih_0 _ _ _ _ _ _ _ _ _ _ _ h)
def y_Model_award : MethodName := ⟨"CrewOfficeModel", "award", "()Z"⟩
def u_Model_award : am_U := ("CrewOfficeModel", "award", prog_12_method_50_code, 4, (some .boolean), [])
def R_Model_award : Room := { frames := 8, cells := 0, slots := 0, locals := 193 }
theorem d_Model_award_0 : decode u_Model_award.2.2.1 0 = .ok (.aload_n 0, 1) := by decide +kernel
theorem d_Model_award_1 : decode u_Model_award.2.2.1 1 = .ok (.aload_n 0, 1) := by decide +kernel
theorem d_Model_award_2 : decode u_Model_award.2.2.1 2 = .ok (.getfield 161, 3) := by decide +kernel
theorem d_Model_award_5 : decode u_Model_award.2.2.1 5 = .ok (.ifCond .ne 7, 3) := by decide +kernel
theorem d_Model_award_8 : decode u_Model_award.2.2.1 8 = .ok (.iconst 1, 1) := by decide +kernel
theorem d_Model_award_9 : decode u_Model_award.2.2.1 9 = .ok (.goto 4, 3) := by decide +kernel
theorem d_Model_award_12 : decode u_Model_award.2.2.1 12 = .ok (.iconst 0, 1) := by decide +kernel
theorem d_Model_award_13 : decode u_Model_award.2.2.1 13 = .ok (.iconst 1, 1) := by decide +kernel
theorem d_Model_award_14 : decode u_Model_award.2.2.1 14 = .ok (.invokevirtual 184, 3) := by decide +kernel
theorem d_Model_award_17 : decode u_Model_award.2.2.1 17 = .ok (.ifCond .eq 5, 3) := by decide +kernel
theorem d_Model_award_20 : decode u_Model_award.2.2.1 20 = .ok (.iconst 0, 1) := by decide +kernel
theorem d_Model_award_21 : decode u_Model_award.2.2.1 21 = .ok (.ireturn, 1) := by decide +kernel
theorem d_Model_award_22 : decode u_Model_award.2.2.1 22 = .ok (.aload_n 0, 1) := by decide +kernel
theorem d_Model_award_23 : decode u_Model_award.2.2.1 23 = .ok (.invokevirtual 165, 3) := by decide +kernel
theorem d_Model_award_26 : decode u_Model_award.2.2.1 26 = .ok (.aload_n 0, 1) := by decide +kernel
theorem d_Model_award_27 : decode u_Model_award.2.2.1 27 = .ok (.iconst 0, 1) := by decide +kernel
theorem d_Model_award_28 : decode u_Model_award.2.2.1 28 = .ok (.putfield 255, 3) := by decide +kernel
theorem d_Model_award_31 : decode u_Model_award.2.2.1 31 = .ok (.iconst 0, 1) := by decide +kernel
theorem d_Model_award_32 : decode u_Model_award.2.2.1 32 = .ok (.istore_n 1, 1) := by decide +kernel
theorem d_Model_award_33 : decode u_Model_award.2.2.1 33 = .ok (.iload_n 1, 1) := by decide +kernel
theorem d_Model_award_34 : decode u_Model_award.2.2.1 34 = .ok (.aload_n 0, 1) := by decide +kernel
theorem d_Model_award_35 : decode u_Model_award.2.2.1 35 = .ok (.getfield 102, 3) := by decide +kernel
theorem d_Model_award_38 : decode u_Model_award.2.2.1 38 = .ok (.if_icmp .ge 41, 3) := by decide +kernel
theorem d_Model_award_41 : decode u_Model_award.2.2.1 41 = .ok (.aload_n 0, 1) := by decide +kernel
theorem d_Model_award_42 : decode u_Model_award.2.2.1 42 = .ok (.getfield 124, 3) := by decide +kernel
theorem d_Model_award_45 : decode u_Model_award.2.2.1 45 = .ok (.iload_n 1, 1) := by decide +kernel
theorem d_Model_award_46 : decode u_Model_award.2.2.1 46 = .ok (.baload, 1) := by decide +kernel
theorem d_Model_award_47 : decode u_Model_award.2.2.1 47 = .ok (.ifCond .ne 6, 3) := by decide +kernel
theorem d_Model_award_50 : decode u_Model_award.2.2.1 50 = .ok (.goto 23, 3) := by decide +kernel
theorem d_Model_award_53 : decode u_Model_award.2.2.1 53 = .ok (.aload_n 0, 1) := by decide +kernel
theorem d_Model_award_54 : decode u_Model_award.2.2.1 54 = .ok (.getfield 143, 3) := by decide +kernel
theorem d_Model_award_57 : decode u_Model_award.2.2.1 57 = .ok (.aload_n 0, 1) := by decide +kernel
theorem d_Model_award_58 : decode u_Model_award.2.2.1 58 = .ok (.getfield 255, 3) := by decide +kernel
theorem d_Model_award_61 : decode u_Model_award.2.2.1 61 = .ok (.iload_n 1, 1) := by decide +kernel
theorem d_Model_award_62 : decode u_Model_award.2.2.1 62 = .ok (.iastore, 1) := by decide +kernel
theorem d_Model_award_63 : decode u_Model_award.2.2.1 63 = .ok (.aload_n 0, 1) := by decide +kernel
theorem d_Model_award_64 : decode u_Model_award.2.2.1 64 = .ok (.dup, 1) := by decide +kernel
theorem d_Model_award_65 : decode u_Model_award.2.2.1 65 = .ok (.getfield 255, 3) := by decide +kernel
theorem d_Model_award_68 : decode u_Model_award.2.2.1 68 = .ok (.iconst 1, 1) := by decide +kernel
theorem d_Model_award_69 : decode u_Model_award.2.2.1 69 = .ok (.iadd, 1) := by decide +kernel
theorem d_Model_award_70 : decode u_Model_award.2.2.1 70 = .ok (.putfield 255, 3) := by decide +kernel
theorem d_Model_award_73 : decode u_Model_award.2.2.1 73 = .ok (.iinc 1 1, 3) := by decide +kernel
theorem d_Model_award_76 : decode u_Model_award.2.2.1 76 = .ok (.goto (-43), 3) := by decide +kernel
theorem d_Model_award_79 : decode u_Model_award.2.2.1 79 = .ok (.aload_n 0, 1) := by decide +kernel
theorem d_Model_award_80 : decode u_Model_award.2.2.1 80 = .ok (.invokevirtual 274, 3) := by decide +kernel
theorem d_Model_award_83 : decode u_Model_award.2.2.1 83 = .ok (.aload_n 0, 1) := by decide +kernel
theorem d_Model_award_84 : decode u_Model_award.2.2.1 84 = .ok (.invokevirtual 277, 3) := by decide +kernel
theorem d_Model_award_87 : decode u_Model_award.2.2.1 87 = .ok (.iconst 1, 1) := by decide +kernel
theorem d_Model_award_88 : decode u_Model_award.2.2.1 88 = .ok (.aload_n 0, 1) := by decide +kernel
theorem d_Model_award_89 : decode u_Model_award.2.2.1 89 = .ok (.getfield 255, 3) := by decide +kernel
theorem d_Model_award_92 : decode u_Model_award.2.2.1 92 = .ok (.ishl, 1) := by decide +kernel
theorem d_Model_award_93 : decode u_Model_award.2.2.1 93 = .ok (.iconst 1, 1) := by decide +kernel
theorem d_Model_award_94 : decode u_Model_award.2.2.1 94 = .ok (.isub, 1) := by decide +kernel
theorem d_Model_award_95 : decode u_Model_award.2.2.1 95 = .ok (.istore_n 1, 1) := by decide +kernel
theorem d_Model_award_96 : decode u_Model_award.2.2.1 96 = .ok (.aload_n 0, 1) := by decide +kernel
theorem d_Model_award_97 : decode u_Model_award.2.2.1 97 = .ok (.getfield 152, 3) := by decide +kernel
theorem d_Model_award_100 : decode u_Model_award.2.2.1 100 = .ok (.iload_n 1, 1) := by decide +kernel
theorem d_Model_award_101 : decode u_Model_award.2.2.1 101 = .ok (.baload, 1) := by decide +kernel
theorem d_Model_award_102 : decode u_Model_award.2.2.1 102 = .ok (.ifCond .ne 5, 3) := by decide +kernel
theorem d_Model_award_105 : decode u_Model_award.2.2.1 105 = .ok (.iconst 0, 1) := by decide +kernel
theorem d_Model_award_106 : decode u_Model_award.2.2.1 106 = .ok (.ireturn, 1) := by decide +kernel
theorem d_Model_award_107 : decode u_Model_award.2.2.1 107 = .ok (.iconst 0, 1) := by decide +kernel
theorem d_Model_award_108 : decode u_Model_award.2.2.1 108 = .ok (.istore_n 2, 1) := by decide +kernel
theorem d_Model_award_109 : decode u_Model_award.2.2.1 109 = .ok (.iload_n 2, 1) := by decide +kernel
theorem d_Model_award_110 : decode u_Model_award.2.2.1 110 = .ok (.aload_n 0, 1) := by decide +kernel
theorem d_Model_award_111 : decode u_Model_award.2.2.1 111 = .ok (.getfield 258, 3) := by decide +kernel
theorem d_Model_award_114 : decode u_Model_award.2.2.1 114 = .ok (.if_icmp .ge 31, 3) := by decide +kernel
theorem d_Model_award_117 : decode u_Model_award.2.2.1 117 = .ok (.aload_n 0, 1) := by decide +kernel
theorem d_Model_award_118 : decode u_Model_award.2.2.1 118 = .ok (.iload_n 2, 1) := by decide +kernel
theorem d_Model_award_119 : decode u_Model_award.2.2.1 119 = .ok (.iload_n 1, 1) := by decide +kernel
theorem d_Model_award_120 : decode u_Model_award.2.2.1 120 = .ok (.invokevirtual 280, 3) := by decide +kernel
theorem d_Model_award_123 : decode u_Model_award.2.2.1 123 = .ok (.istore_n 3, 1) := by decide +kernel
theorem d_Model_award_124 : decode u_Model_award.2.2.1 124 = .ok (.aload_n 0, 1) := by decide +kernel
theorem d_Model_award_125 : decode u_Model_award.2.2.1 125 = .ok (.aload_n 0, 1) := by decide +kernel
theorem d_Model_award_126 : decode u_Model_award.2.2.1 126 = .ok (.getfield 146, 3) := by decide +kernel
theorem d_Model_award_129 : decode u_Model_award.2.2.1 129 = .ok (.iload_n 2, 1) := by decide +kernel
theorem d_Model_award_130 : decode u_Model_award.2.2.1 130 = .ok (.iaload, 1) := by decide +kernel
theorem d_Model_award_131 : decode u_Model_award.2.2.1 131 = .ok (.iload_n 3, 1) := by decide +kernel
theorem d_Model_award_132 : decode u_Model_award.2.2.1 132 = .ok (.invokevirtual 264, 3) := by decide +kernel
theorem d_Model_award_135 : decode u_Model_award.2.2.1 135 = .ok (.iload_n 1, 1) := by decide +kernel
theorem d_Model_award_136 : decode u_Model_award.2.2.1 136 = .ok (.iload_n 3, 1) := by decide +kernel
theorem d_Model_award_137 : decode u_Model_award.2.2.1 137 = .ok (.ixor, 1) := by decide +kernel
theorem d_Model_award_138 : decode u_Model_award.2.2.1 138 = .ok (.istore_n 1, 1) := by decide +kernel
theorem d_Model_award_139 : decode u_Model_award.2.2.1 139 = .ok (.iinc 2 1, 3) := by decide +kernel
theorem d_Model_award_142 : decode u_Model_award.2.2.1 142 = .ok (.goto (-33), 3) := by decide +kernel
theorem d_Model_award_145 : decode u_Model_award.2.2.1 145 = .ok (.iconst 1, 1) := by decide +kernel
theorem d_Model_award_146 : decode u_Model_award.2.2.1 146 = .ok (.ireturn, 1) := by decide +kernel
theorem w_Model_award : am_code y_Model_award u_Model_award ∈ am_ws := am_mem (List.mem_of_getElem? (i := 1331) (by decide +kernel)) rfl
def a_Model_award_0 (rc : Nat → Nat → Int32 → Int32 → Int32 → Nat → am_M → Option (Int32 × am_M)) (r0 : Nat) (x1 : Int32) (x2 : Int32) (s0 : Int32) (sr1 : Nat) (M : am_M) : Option (Int32 × am_M) := (q_ob M sr1 10).bind (fun o14 => (f_Model_fails M sr1 s0 (1 : Int32)).bind (fun p14 => if p14.1 = 0 then ((q_ob p14.2 r0 10).bind (fun o23 => (f_Model_unawards p14.2 r0).bind (fun p23 => (q_pti p23.2 r0 10 49 (0 : Int32)).bind (fun M28 => rc 1 r0 (0 : Int32) 0 0 0 M28)))) else (some ((0 : Int32), p14.2))))
def a_Model_award_1 (rc : Nat → Nat → Int32 → Int32 → Int32 → Nat → am_M → Option (Int32 × am_M)) (r0 : Nat) (x1 : Int32) (x2 : Int32) (s0 : Int32) (sr1 : Nat) (M : am_M) : Option (Int32 × am_M) := (q_gti M r0 10 34).bind (fun t35 => if t35 ≤ x1 then ((q_ob M r0 10).bind (fun o80 => (f_Model_orders M r0).bind (fun p80 => (q_ob p80.2 r0 10).bind (fun o84 => (f_Model_tables p80.2 r0).bind (fun p84 => (q_gti p84.2 r0 10 49).bind (fun t89 => (q_gtr p84.2 r0 10 53).bind (fun t97 => (q_ldz p84.2 t97 (((1 : Int32) <<< (t89 &&& 31)) - (1 : Int32))).bind (fun t101 => if t101 = 0 then (some ((0 : Int32), p84.2)) else (rc 3 r0 (((1 : Int32) <<< (t89 &&& 31)) - (1 : Int32)) (0 : Int32) 0 0 p84.2))))))))) else ((q_gtr M r0 10 42).bind (fun t42 => (q_ldz M t42 x1).bind (fun t46 => if t46 = 0 then (rc 2 r0 x1 0 0 0 M) else ((q_gtr M r0 10 48).bind (fun t54 => (q_gti M r0 10 49).bind (fun t58 => (q_sti M t54 t58 x1).bind (fun M62 => (q_gti M62 r0 10 49).bind (fun t65 => (q_pti M62 r0 10 49 (t65 + (1 : Int32))).bind (fun M70 => rc 2 r0 x1 0 0 0 M70))))))))))
def a_Model_award_2 (rc : Nat → Nat → Int32 → Int32 → Int32 → Nat → am_M → Option (Int32 × am_M)) (r0 : Nat) (x1 : Int32) (x2 : Int32) (s0 : Int32) (sr1 : Nat) (M : am_M) : Option (Int32 × am_M) := rc 1 r0 (x1 + (1 : Int32)) 0 0 0 M
def a_Model_award_3 (rc : Nat → Nat → Int32 → Int32 → Int32 → Nat → am_M → Option (Int32 × am_M)) (r0 : Nat) (x1 : Int32) (x2 : Int32) (s0 : Int32) (sr1 : Nat) (M : am_M) : Option (Int32 × am_M) := (q_gti M r0 10 51).bind (fun t111 => if t111 ≤ x2 then (some ((1 : Int32), M)) else ((q_ob M r0 10).bind (fun o120 => (f_Model_chooses M r0 x2 x1).bind (fun p120 => (q_gtr p120.2 r0 10 50).bind (fun t126 => (q_ldi p120.2 t126 x2).bind (fun t130 => (q_ob p120.2 r0 10).bind (fun o132 => (f_Model_gives p120.2 r0 t130 p120.1).bind (fun p132 => rc 3 r0 (x1 ^^^ p120.1) (x2 + (1 : Int32)) 0 0 p132.2))))))))
def g_Model_award : Nat → Nat → Nat → Int32 → Int32 → Int32 → Nat → am_M → Option (Int32 × am_M)
  | 0, _, _, _, _, _, _, _ => none
  | F + 1, 0, r0, x1, x2, s0, sr1, M => a_Model_award_0 (g_Model_award F) r0 x1 x2 s0 sr1 M
  | F + 1, 1, r0, x1, x2, s0, sr1, M => a_Model_award_1 (g_Model_award F) r0 x1 x2 s0 sr1 M
  | F + 1, 2, r0, x1, x2, s0, sr1, M => a_Model_award_2 (g_Model_award F) r0 x1 x2 s0 sr1 M
  | F + 1, 3, r0, x1, x2, s0, sr1, M => a_Model_award_3 (g_Model_award F) r0 x1 x2 s0 sr1 M
  | _ + 1, _ + 4, _, _, _, _, _, _ => none
def e_Model_award (rc : Nat → Nat → Int32 → Int32 → Int32 → Nat → am_M → Option (Int32 × am_M)) (M : am_M) (a0 : Nat) : Option (Int32 × am_M) := (q_gti M a0 10 41).bind (fun t2 => if t2 = 0 then (rc 0 a0 0 0 (1 : Int32) a0 M) else (rc 0 a0 0 0 (0 : Int32) a0 M))
def f_Model_award (M : am_M) (a0 : Nat) : Option (Int32 × am_M) := e_Model_award (g_Model_award 1000000000) M a0
theorem kV_Model_274 : am_kV "CrewOfficeModel" 274 10 y_Model_orders u_Model_orders 0 := ⟨List.mem_of_getElem? (i := 1332) (by decide +kernel), ⟨List.mem_of_getElem? (i := 1334) (by decide +kernel), List.mem_of_getElem? (i := 45) (by decide +kernel)⟩, List.mem_of_getElem? (i := 65) (by decide +kernel), w_Model_orders, ⟨⟨by decide +kernel, by decide +kernel⟩, by decide +kernel⟩⟩
theorem kV_Model_277 : am_kV "CrewOfficeModel" 277 10 y_Model_tables u_Model_tables 0 := ⟨List.mem_of_getElem? (i := 1336) (by decide +kernel), ⟨List.mem_of_getElem? (i := 1338) (by decide +kernel), List.mem_of_getElem? (i := 46) (by decide +kernel)⟩, List.mem_of_getElem? (i := 65) (by decide +kernel), w_Model_tables, ⟨⟨by decide +kernel, by decide +kernel⟩, by decide +kernel⟩⟩
theorem kV_Model_280 : am_kV "CrewOfficeModel" 280 10 y_Model_chooses u_Model_chooses 2 := ⟨List.mem_of_getElem? (i := 1344) (by decide +kernel), ⟨List.mem_of_getElem? (i := 1346) (by decide +kernel), List.mem_of_getElem? (i := 48) (by decide +kernel)⟩, List.mem_of_getElem? (i := 65) (by decide +kernel), w_Model_chooses, ⟨⟨by decide +kernel, by decide +kernel⟩, by decide +kernel⟩⟩
set_option maxHeartbeats 4000000 in
theorem s_Model_award_0 {rc : Nat → Nat → Int32 → Int32 → Int32 → Nat → am_M → Option (Int32 × am_M)} {res : Int32} {M' : am_M} (ih_0 : ∀ (r0 : Nat) (x1 : Int32) (x2 : Int32) (s0 : Int32) (sr1 : Nat) (M : am_M), rc 0 r0 x1 x2 s0 sr1 M = some (res, M') → AW u_Model_award R_Model_award 0 0 13 [(0, .ref r0)] [.int s0, .ref sr1] M (fun r M2 => r = .inl (some (.int res)) ∧ M2 = M')) (ih_1 : ∀ (r0 : Nat) (x1 : Int32) (x2 : Int32) (s0 : Int32) (sr1 : Nat) (M : am_M), rc 1 r0 x1 x2 s0 sr1 M = some (res, M') → AW u_Model_award R_Model_award 0 0 33 [(0, .ref r0), (1, .int x1)] [] M (fun r M2 => r = .inl (some (.int res)) ∧ M2 = M')) (ih_2 : ∀ (r0 : Nat) (x1 : Int32) (x2 : Int32) (s0 : Int32) (sr1 : Nat) (M : am_M), rc 2 r0 x1 x2 s0 sr1 M = some (res, M') → AW u_Model_award R_Model_award 0 0 73 [(0, .ref r0), (1, .int x1)] [] M (fun r M2 => r = .inl (some (.int res)) ∧ M2 = M')) (ih_3 : ∀ (r0 : Nat) (x1 : Int32) (x2 : Int32) (s0 : Int32) (sr1 : Nat) (M : am_M), rc 3 r0 x1 x2 s0 sr1 M = some (res, M') → AW u_Model_award R_Model_award 0 0 109 [(0, .ref r0), (1, .int x1), (2, .int x2)] [] M (fun r M2 => r = .inl (some (.int res)) ∧ M2 = M')) : ∀ (r0 : Nat) (x1 : Int32) (x2 : Int32) (s0 : Int32) (sr1 : Nat) (M : am_M), a_Model_award_0 rc r0 x1 x2 s0 sr1 M = some (res, M') → AW u_Model_award R_Model_award 0 0 13 [(0, .ref r0)] [.int s0, .ref sr1] M (fun r M2 => r = .inl (some (.int res)) ∧ M2 = M') := by
  intro r0 x1 x2 s0 sr1 M h
  unfold a_Model_award_0 at h
  refine aw_iconst (v := 1) d_Model_award_13 (by decide) ?_
  obtain ⟨o14, e_o14, h⟩ := q_bind h
  obtain ⟨⟨t14, M14⟩, e_t14, h⟩ := q_bind h
  dsimp only at h
  refine aw_cV (v := (some (.int t14))) (As := [.int s0, .int (1 : Int32)]) (rest := []) (st' := [.int t14]) d_Model_award_14 kV_Model_184 (q_ob_spec e_o14).1 (q_ob_spec e_o14).2 ⟨Nat.le_of_ble_eq_true rfl, Nat.le_of_ble_eq_true rfl, Nat.le_of_ble_eq_true rfl, Nat.le_of_ble_eq_true rfl⟩ rfl rfl (Nat.le_of_ble_eq_true rfl) rfl (mt_Model_fails e_t14) ?_
  refine aw_if_eq (tgt := 22) d_Model_award_17 (by decide) (fun hc => ?_) (fun hc => ?_)
  · rw [if_pos hc] at h
    refine aw_aload_n d_Model_award_22 rfl rfl ?_
    obtain ⟨o23, e_o23, h⟩ := q_bind h
    obtain ⟨⟨t23, M23⟩, e_t23, h⟩ := q_bind h
    dsimp only at h
    refine aw_cV (v := none) (As := []) (rest := []) (st' := []) d_Model_award_23 kV_Model_165 (q_ob_spec e_o23).1 (q_ob_spec e_o23).2 ⟨Nat.le_of_ble_eq_true rfl, Nat.le_of_ble_eq_true rfl, Nat.le_of_ble_eq_true rfl, Nat.le_of_ble_eq_true rfl⟩ rfl rfl (Nat.le_of_ble_eq_true rfl) rfl (mt_Model_unawards e_t23) ?_
    refine aw_aload_n d_Model_award_26 rfl rfl ?_
    refine aw_iconst (v := 0) d_Model_award_27 (by decide) ?_
    obtain ⟨M28, e_M28, h⟩ := q_bind h
    refine aw_pti d_Model_award_28 fl_Model_255 rfl rfl e_M28 ?_
    refine aw_iconst (v := 0) d_Model_award_31 (by decide) ?_
    refine aw_istore_n (ls' := [(1, .int _), (0, .ref _)]) d_Model_award_32 rfl (Nat.le_of_ble_eq_true rfl) rfl ?_
    exact aw_pick [1, 0] rfl (ih_1 _ _ _ _ _ _ h)
  · rw [if_neg hc] at h
    refine aw_iconst (v := 0) d_Model_award_20 (by decide) ?_
    cases h
    exact aw_zreturn d_Model_award_21 rfl (by decide) (Nat.le_of_ble_eq_true rfl) (Nat.le_of_ble_eq_true rfl) ⟨rfl, rfl⟩
set_option maxHeartbeats 4000000 in
theorem s_Model_award_1 {rc : Nat → Nat → Int32 → Int32 → Int32 → Nat → am_M → Option (Int32 × am_M)} {res : Int32} {M' : am_M} (ih_0 : ∀ (r0 : Nat) (x1 : Int32) (x2 : Int32) (s0 : Int32) (sr1 : Nat) (M : am_M), rc 0 r0 x1 x2 s0 sr1 M = some (res, M') → AW u_Model_award R_Model_award 0 0 13 [(0, .ref r0)] [.int s0, .ref sr1] M (fun r M2 => r = .inl (some (.int res)) ∧ M2 = M')) (ih_1 : ∀ (r0 : Nat) (x1 : Int32) (x2 : Int32) (s0 : Int32) (sr1 : Nat) (M : am_M), rc 1 r0 x1 x2 s0 sr1 M = some (res, M') → AW u_Model_award R_Model_award 0 0 33 [(0, .ref r0), (1, .int x1)] [] M (fun r M2 => r = .inl (some (.int res)) ∧ M2 = M')) (ih_2 : ∀ (r0 : Nat) (x1 : Int32) (x2 : Int32) (s0 : Int32) (sr1 : Nat) (M : am_M), rc 2 r0 x1 x2 s0 sr1 M = some (res, M') → AW u_Model_award R_Model_award 0 0 73 [(0, .ref r0), (1, .int x1)] [] M (fun r M2 => r = .inl (some (.int res)) ∧ M2 = M')) (ih_3 : ∀ (r0 : Nat) (x1 : Int32) (x2 : Int32) (s0 : Int32) (sr1 : Nat) (M : am_M), rc 3 r0 x1 x2 s0 sr1 M = some (res, M') → AW u_Model_award R_Model_award 0 0 109 [(0, .ref r0), (1, .int x1), (2, .int x2)] [] M (fun r M2 => r = .inl (some (.int res)) ∧ M2 = M')) : ∀ (r0 : Nat) (x1 : Int32) (x2 : Int32) (s0 : Int32) (sr1 : Nat) (M : am_M), a_Model_award_1 rc r0 x1 x2 s0 sr1 M = some (res, M') → AW u_Model_award R_Model_award 0 0 33 [(0, .ref r0), (1, .int x1)] [] M (fun r M2 => r = .inl (some (.int res)) ∧ M2 = M') := by
  intro r0 x1 x2 s0 sr1 M h
  unfold a_Model_award_1 at h
  refine aw_iload_n d_Model_award_33 rfl rfl ?_
  refine aw_aload_n d_Model_award_34 rfl rfl ?_
  obtain ⟨t35, e_t35, h⟩ := q_bind h
  refine aw_gti d_Model_award_35 fl_Model_102 (Or.inl rfl) e_t35 ?_
  refine aw_icmp_ge (tgt := 79) d_Model_award_38 (by decide) (fun hc => ?_) (fun hc => ?_)
  · rw [if_pos hc] at h
    refine aw_aload_n d_Model_award_79 rfl rfl ?_
    obtain ⟨o80, e_o80, h⟩ := q_bind h
    obtain ⟨⟨t80, M80⟩, e_t80, h⟩ := q_bind h
    dsimp only at h
    refine aw_cV (v := none) (As := []) (rest := []) (st' := []) d_Model_award_80 kV_Model_274 (q_ob_spec e_o80).1 (q_ob_spec e_o80).2 ⟨Nat.le_of_ble_eq_true rfl, Nat.le_of_ble_eq_true rfl, Nat.le_of_ble_eq_true rfl, Nat.le_of_ble_eq_true rfl⟩ rfl rfl (Nat.le_of_ble_eq_true rfl) rfl (mt_Model_orders e_t80) ?_
    refine aw_aload_n d_Model_award_83 rfl rfl ?_
    obtain ⟨o84, e_o84, h⟩ := q_bind h
    obtain ⟨⟨t84, M84⟩, e_t84, h⟩ := q_bind h
    dsimp only at h
    refine aw_cV (v := none) (As := []) (rest := []) (st' := []) d_Model_award_84 kV_Model_277 (q_ob_spec e_o84).1 (q_ob_spec e_o84).2 ⟨Nat.le_of_ble_eq_true rfl, Nat.le_of_ble_eq_true rfl, Nat.le_of_ble_eq_true rfl, Nat.le_of_ble_eq_true rfl⟩ rfl rfl (Nat.le_of_ble_eq_true rfl) rfl (mt_Model_tables e_t84) ?_
    refine aw_iconst (v := 1) d_Model_award_87 (by decide) ?_
    refine aw_aload_n d_Model_award_88 rfl rfl ?_
    obtain ⟨t89, e_t89, h⟩ := q_bind h
    refine aw_gti d_Model_award_89 fl_Model_255 (Or.inl rfl) e_t89 ?_
    refine aw_ishl d_Model_award_92 ?_
    refine aw_iconst (v := 1) d_Model_award_93 (by decide) ?_
    refine aw_isub d_Model_award_94 ?_
    refine aw_istore_n (ls' := [(1, .int _), (0, .ref _)]) d_Model_award_95 rfl (Nat.le_of_ble_eq_true rfl) rfl ?_
    refine aw_aload_n d_Model_award_96 rfl rfl ?_
    obtain ⟨t97, e_t97, h⟩ := q_bind h
    refine aw_gtr d_Model_award_97 fl_Model_152 (Or.inr ⟨_, rfl⟩) e_t97 ?_
    refine aw_iload_n d_Model_award_100 rfl rfl ?_
    obtain ⟨t101, e_t101, h⟩ := q_bind h
    refine aw_ldz d_Model_award_101 e_t101 ?_
    refine aw_if_ne (tgt := 107) d_Model_award_102 (by decide) (fun hc => ?_) (fun hc => ?_)
    · rw [if_neg hc] at h
      refine aw_iconst (v := 0) d_Model_award_107 (by decide) ?_
      refine aw_istore_n (ls' := [(2, .int _), (1, .int _), (0, .ref _)]) d_Model_award_108 rfl (Nat.le_of_ble_eq_true rfl) rfl ?_
      exact aw_pick [2, 1, 0] rfl (ih_3 _ _ _ _ _ _ h)
    · rw [if_pos hc] at h
      refine aw_iconst (v := 0) d_Model_award_105 (by decide) ?_
      cases h
      exact aw_zreturn d_Model_award_106 rfl (by decide) (Nat.le_of_ble_eq_true rfl) (Nat.le_of_ble_eq_true rfl) ⟨rfl, rfl⟩
  · rw [if_neg hc] at h
    refine aw_aload_n d_Model_award_41 rfl rfl ?_
    obtain ⟨t42, e_t42, h⟩ := q_bind h
    refine aw_gtr d_Model_award_42 fl_Model_124 (Or.inr ⟨_, rfl⟩) e_t42 ?_
    refine aw_iload_n d_Model_award_45 rfl rfl ?_
    obtain ⟨t46, e_t46, h⟩ := q_bind h
    refine aw_ldz d_Model_award_46 e_t46 ?_
    refine aw_if_ne (tgt := 53) d_Model_award_47 (by decide) (fun hc => ?_) (fun hc => ?_)
    · rw [if_neg hc] at h
      refine aw_aload_n d_Model_award_53 rfl rfl ?_
      obtain ⟨t54, e_t54, h⟩ := q_bind h
      refine aw_gtr d_Model_award_54 fl_Model_143 (Or.inr ⟨_, rfl⟩) e_t54 ?_
      refine aw_aload_n d_Model_award_57 rfl rfl ?_
      obtain ⟨t58, e_t58, h⟩ := q_bind h
      refine aw_gti d_Model_award_58 fl_Model_255 (Or.inl rfl) e_t58 ?_
      refine aw_iload_n d_Model_award_61 rfl rfl ?_
      obtain ⟨M62, e_M62, h⟩ := q_bind h
      refine aw_sti d_Model_award_62 e_M62 ?_
      refine aw_aload_n d_Model_award_63 rfl rfl ?_
      refine aw_dup d_Model_award_64 rfl ?_
      obtain ⟨t65, e_t65, h⟩ := q_bind h
      refine aw_gti d_Model_award_65 fl_Model_255 (Or.inl rfl) e_t65 ?_
      refine aw_iconst (v := 1) d_Model_award_68 (by decide) ?_
      refine aw_iadd d_Model_award_69 ?_
      obtain ⟨M70, e_M70, h⟩ := q_bind h
      refine aw_pti d_Model_award_70 fl_Model_255 rfl rfl e_M70 ?_
      exact aw_pick [0, 1] rfl (ih_2 _ _ _ _ _ _ h)
    · rw [if_pos hc] at h
      refine aw_goto (tgt := 73) d_Model_award_50 (by decide) ?_
      exact aw_pick [0, 1] rfl (ih_2 _ _ _ _ _ _ h)
set_option maxHeartbeats 4000000 in
theorem s_Model_award_2 {rc : Nat → Nat → Int32 → Int32 → Int32 → Nat → am_M → Option (Int32 × am_M)} {res : Int32} {M' : am_M} (ih_0 : ∀ (r0 : Nat) (x1 : Int32) (x2 : Int32) (s0 : Int32) (sr1 : Nat) (M : am_M), rc 0 r0 x1 x2 s0 sr1 M = some (res, M') → AW u_Model_award R_Model_award 0 0 13 [(0, .ref r0)] [.int s0, .ref sr1] M (fun r M2 => r = .inl (some (.int res)) ∧ M2 = M')) (ih_1 : ∀ (r0 : Nat) (x1 : Int32) (x2 : Int32) (s0 : Int32) (sr1 : Nat) (M : am_M), rc 1 r0 x1 x2 s0 sr1 M = some (res, M') → AW u_Model_award R_Model_award 0 0 33 [(0, .ref r0), (1, .int x1)] [] M (fun r M2 => r = .inl (some (.int res)) ∧ M2 = M')) (ih_2 : ∀ (r0 : Nat) (x1 : Int32) (x2 : Int32) (s0 : Int32) (sr1 : Nat) (M : am_M), rc 2 r0 x1 x2 s0 sr1 M = some (res, M') → AW u_Model_award R_Model_award 0 0 73 [(0, .ref r0), (1, .int x1)] [] M (fun r M2 => r = .inl (some (.int res)) ∧ M2 = M')) (ih_3 : ∀ (r0 : Nat) (x1 : Int32) (x2 : Int32) (s0 : Int32) (sr1 : Nat) (M : am_M), rc 3 r0 x1 x2 s0 sr1 M = some (res, M') → AW u_Model_award R_Model_award 0 0 109 [(0, .ref r0), (1, .int x1), (2, .int x2)] [] M (fun r M2 => r = .inl (some (.int res)) ∧ M2 = M')) : ∀ (r0 : Nat) (x1 : Int32) (x2 : Int32) (s0 : Int32) (sr1 : Nat) (M : am_M), a_Model_award_2 rc r0 x1 x2 s0 sr1 M = some (res, M') → AW u_Model_award R_Model_award 0 0 73 [(0, .ref r0), (1, .int x1)] [] M (fun r M2 => r = .inl (some (.int res)) ∧ M2 = M') := by
  intro r0 x1 x2 s0 sr1 M h
  unfold a_Model_award_2 at h
  refine aw_iinc (v := (x1 + (1 : Int32))) (ls' := [(1, .int _), (0, .ref _)]) d_Model_award_73 rfl rfl (Nat.le_of_ble_eq_true rfl) rfl ?_
  refine aw_goto (tgt := 33) d_Model_award_76 (by decide) ?_
  exact aw_pick [1, 0] rfl (ih_1 _ _ _ _ _ _ h)
set_option maxHeartbeats 4000000 in
theorem s_Model_award_3 {rc : Nat → Nat → Int32 → Int32 → Int32 → Nat → am_M → Option (Int32 × am_M)} {res : Int32} {M' : am_M} (ih_0 : ∀ (r0 : Nat) (x1 : Int32) (x2 : Int32) (s0 : Int32) (sr1 : Nat) (M : am_M), rc 0 r0 x1 x2 s0 sr1 M = some (res, M') → AW u_Model_award R_Model_award 0 0 13 [(0, .ref r0)] [.int s0, .ref sr1] M (fun r M2 => r = .inl (some (.int res)) ∧ M2 = M')) (ih_1 : ∀ (r0 : Nat) (x1 : Int32) (x2 : Int32) (s0 : Int32) (sr1 : Nat) (M : am_M), rc 1 r0 x1 x2 s0 sr1 M = some (res, M') → AW u_Model_award R_Model_award 0 0 33 [(0, .ref r0), (1, .int x1)] [] M (fun r M2 => r = .inl (some (.int res)) ∧ M2 = M')) (ih_2 : ∀ (r0 : Nat) (x1 : Int32) (x2 : Int32) (s0 : Int32) (sr1 : Nat) (M : am_M), rc 2 r0 x1 x2 s0 sr1 M = some (res, M') → AW u_Model_award R_Model_award 0 0 73 [(0, .ref r0), (1, .int x1)] [] M (fun r M2 => r = .inl (some (.int res)) ∧ M2 = M')) (ih_3 : ∀ (r0 : Nat) (x1 : Int32) (x2 : Int32) (s0 : Int32) (sr1 : Nat) (M : am_M), rc 3 r0 x1 x2 s0 sr1 M = some (res, M') → AW u_Model_award R_Model_award 0 0 109 [(0, .ref r0), (1, .int x1), (2, .int x2)] [] M (fun r M2 => r = .inl (some (.int res)) ∧ M2 = M')) : ∀ (r0 : Nat) (x1 : Int32) (x2 : Int32) (s0 : Int32) (sr1 : Nat) (M : am_M), a_Model_award_3 rc r0 x1 x2 s0 sr1 M = some (res, M') → AW u_Model_award R_Model_award 0 0 109 [(0, .ref r0), (1, .int x1), (2, .int x2)] [] M (fun r M2 => r = .inl (some (.int res)) ∧ M2 = M') := by
  intro r0 x1 x2 s0 sr1 M h
  unfold a_Model_award_3 at h
  refine aw_iload_n d_Model_award_109 rfl rfl ?_
  refine aw_aload_n d_Model_award_110 rfl rfl ?_
  obtain ⟨t111, e_t111, h⟩ := q_bind h
  refine aw_gti d_Model_award_111 fl_Model_258 (Or.inl rfl) e_t111 ?_
  refine aw_icmp_ge (tgt := 145) d_Model_award_114 (by decide) (fun hc => ?_) (fun hc => ?_)
  · rw [if_pos hc] at h
    refine aw_iconst (v := 1) d_Model_award_145 (by decide) ?_
    cases h
    exact aw_zreturn d_Model_award_146 rfl (by decide) (Nat.le_of_ble_eq_true rfl) (Nat.le_of_ble_eq_true rfl) ⟨rfl, rfl⟩
  · rw [if_neg hc] at h
    refine aw_aload_n d_Model_award_117 rfl rfl ?_
    refine aw_iload_n d_Model_award_118 rfl rfl ?_
    refine aw_iload_n d_Model_award_119 rfl rfl ?_
    obtain ⟨o120, e_o120, h⟩ := q_bind h
    obtain ⟨⟨t120, M120⟩, e_t120, h⟩ := q_bind h
    dsimp only at h
    refine aw_cV (v := (some (.int t120))) (As := [.int x2, .int x1]) (rest := []) (st' := [.int t120]) d_Model_award_120 kV_Model_280 (q_ob_spec e_o120).1 (q_ob_spec e_o120).2 ⟨Nat.le_of_ble_eq_true rfl, Nat.le_of_ble_eq_true rfl, Nat.le_of_ble_eq_true rfl, Nat.le_of_ble_eq_true rfl⟩ rfl rfl (Nat.le_of_ble_eq_true rfl) rfl (mt_Model_chooses e_t120) ?_
    refine aw_istore_n (ls' := [(3, .int _), (0, .ref _), (1, .int _), (2, .int _)]) d_Model_award_123 rfl (Nat.le_of_ble_eq_true rfl) rfl ?_
    refine aw_aload_n d_Model_award_124 rfl rfl ?_
    refine aw_aload_n d_Model_award_125 rfl rfl ?_
    obtain ⟨t126, e_t126, h⟩ := q_bind h
    refine aw_gtr d_Model_award_126 fl_Model_146 (Or.inr ⟨_, rfl⟩) e_t126 ?_
    refine aw_iload_n d_Model_award_129 rfl rfl ?_
    obtain ⟨t130, e_t130, h⟩ := q_bind h
    refine aw_ldi d_Model_award_130 e_t130 ?_
    refine aw_iload_n d_Model_award_131 rfl rfl ?_
    obtain ⟨o132, e_o132, h⟩ := q_bind h
    obtain ⟨⟨t132, M132⟩, e_t132, h⟩ := q_bind h
    dsimp only at h
    refine aw_cV (v := none) (As := [.int t130, .int t120]) (rest := []) (st' := []) d_Model_award_132 kV_Model_264 (q_ob_spec e_o132).1 (q_ob_spec e_o132).2 ⟨Nat.le_of_ble_eq_true rfl, Nat.le_of_ble_eq_true rfl, Nat.le_of_ble_eq_true rfl, Nat.le_of_ble_eq_true rfl⟩ rfl rfl (Nat.le_of_ble_eq_true rfl) rfl (mt_Model_gives e_t132) ?_
    refine aw_iload_n d_Model_award_135 rfl rfl ?_
    refine aw_iload_n d_Model_award_136 rfl rfl ?_
    refine aw_ixor d_Model_award_137 ?_
    refine aw_istore_n (ls' := [(1, .int _), (3, .int _), (0, .ref _), (2, .int _)]) d_Model_award_138 rfl (Nat.le_of_ble_eq_true rfl) rfl ?_
    refine aw_iinc (v := (x2 + (1 : Int32))) (ls' := [(2, .int _), (1, .int _), (3, .int _), (0, .ref _)]) d_Model_award_139 rfl rfl (Nat.le_of_ble_eq_true rfl) rfl ?_
    refine aw_goto (tgt := 109) d_Model_award_142 (by decide) ?_
    exact aw_pick [3, 1, 0] rfl (ih_3 _ _ _ _ _ _ h)
theorem l_Model_award {res : Int32} {M' : am_M} : ∀ F : Nat, (∀ (r0 : Nat) (x1 : Int32) (x2 : Int32) (s0 : Int32) (sr1 : Nat) (M : am_M), g_Model_award F 0 r0 x1 x2 s0 sr1 M = some (res, M') → AW u_Model_award R_Model_award 0 0 13 [(0, .ref r0)] [.int s0, .ref sr1] M (fun r M2 => r = .inl (some (.int res)) ∧ M2 = M')) ∧ (∀ (r0 : Nat) (x1 : Int32) (x2 : Int32) (s0 : Int32) (sr1 : Nat) (M : am_M), g_Model_award F 1 r0 x1 x2 s0 sr1 M = some (res, M') → AW u_Model_award R_Model_award 0 0 33 [(0, .ref r0), (1, .int x1)] [] M (fun r M2 => r = .inl (some (.int res)) ∧ M2 = M')) ∧ (∀ (r0 : Nat) (x1 : Int32) (x2 : Int32) (s0 : Int32) (sr1 : Nat) (M : am_M), g_Model_award F 2 r0 x1 x2 s0 sr1 M = some (res, M') → AW u_Model_award R_Model_award 0 0 73 [(0, .ref r0), (1, .int x1)] [] M (fun r M2 => r = .inl (some (.int res)) ∧ M2 = M')) ∧ (∀ (r0 : Nat) (x1 : Int32) (x2 : Int32) (s0 : Int32) (sr1 : Nat) (M : am_M), g_Model_award F 3 r0 x1 x2 s0 sr1 M = some (res, M') → AW u_Model_award R_Model_award 0 0 109 [(0, .ref r0), (1, .int x1), (2, .int x2)] [] M (fun r M2 => r = .inl (some (.int res)) ∧ M2 = M')) := by
  intro F
  induction F with
  | zero => exact ⟨fun _ _ _ _ _ _  h => (by cases h), fun _ _ _ _ _ _  h => (by cases h), fun _ _ _ _ _ _  h => (by cases h), fun _ _ _ _ _ _  h => (by cases h)⟩
  | succ F ih =>
    obtain ⟨ih0, ih1, ih2, ih3⟩ := ih
    exact ⟨s_Model_award_0 ih0 ih1 ih2 ih3, s_Model_award_1 ih0 ih1 ih2 ih3, s_Model_award_2 ih0 ih1 ih2 ih3, s_Model_award_3 ih0 ih1 ih2 ih3⟩
set_option maxHeartbeats 4000000 in
theorem mt_Model_award {M : am_M} {a0 : Nat} {res : Int32} {M' : am_M} (h : f_Model_award M a0 = some (res, M')) : AMet y_Model_award u_Model_award R_Model_award [.ref a0] M (fun r M2 => r = .inl (some (.int res)) ∧ M2 = M') := by
  refine am_met (by decide +kernel) w_Model_award rfl rfl (Nat.le_of_ble_eq_true rfl) ?_
  show AW u_Model_award R_Model_award 0 0 0 [(0, .ref a0)] [] M (fun r M2 => r = .inl (some (.int res)) ∧ M2 = M')
  have ih_0 := (l_Model_award (res := res) (M' := M') 1000000000).1
  have ih_1 := (l_Model_award (res := res) (M' := M') 1000000000).2.1
  have ih_2 := (l_Model_award (res := res) (M' := M') 1000000000).2.2.1
  have ih_3 := (l_Model_award (res := res) (M' := M') 1000000000).2.2.2
  unfold f_Model_award at h
  unfold e_Model_award at h
  generalize g_Model_award 1000000000 = rc at h ih_0 ih_1 ih_2 ih_3
  refine aw_aload_n d_Model_award_0 rfl rfl ?_
  refine aw_aload_n d_Model_award_1 rfl rfl ?_
  obtain ⟨t2, e_t2, h⟩ := q_bind h
  refine aw_gti d_Model_award_2 fl_Model_161 (Or.inr rfl) e_t2 ?_
  refine aw_if_ne (tgt := 12) d_Model_award_5 (by decide) (fun hc => ?_) (fun hc => ?_)
  · rw [if_neg hc] at h
    refine aw_iconst (v := 0) d_Model_award_12 (by decide) ?_
    exact aw_pick [0] rfl (ih_0 _ _ _ _ _ _ h)
  · rw [if_pos hc] at h
    refine aw_iconst (v := 1) d_Model_award_8 (by decide) ?_
    refine aw_goto (tgt := 13) d_Model_award_9 (by decide) ?_
    exact aw_pick [0] rfl (ih_0 _ _ _ _ _ _ h)
