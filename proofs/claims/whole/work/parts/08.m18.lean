-- Trip_leastBroken Office_check Listing_goOn Sharing_share Office_award Listing_list Office_pairings
def y_Trip_leastBroken : MethodName := ⟨"CrewOffice$Trip", "leastBroken", "(I)I"⟩
def u_Trip_leastBroken : am_U := ("CrewOffice$Trip", "leastBroken", prog_9_method_9_code, 2, (some .int), [])
def R_Trip_leastBroken : Room := { frames := 4, cells := 0, slots := 0, locals := 94 }
theorem d_Trip_leastBroken_0 : decode u_Trip_leastBroken.2.2.1 0 = .ok (.aload_n 0, 1) := by decide +kernel
theorem d_Trip_leastBroken_1 : decode u_Trip_leastBroken.2.2.1 1 = .ok (.getfield 12, 3) := by decide +kernel
theorem d_Trip_leastBroken_4 : decode u_Trip_leastBroken.2.2.1 4 = .ok (.getfield 35, 3) := by decide +kernel
theorem d_Trip_leastBroken_7 : decode u_Trip_leastBroken.2.2.1 7 = .ok (.ifCond .eq 21, 3) := by decide +kernel
theorem d_Trip_leastBroken_10 : decode u_Trip_leastBroken.2.2.1 10 = .ok (.aload_n 0, 1) := by decide +kernel
theorem d_Trip_leastBroken_11 : decode u_Trip_leastBroken.2.2.1 11 = .ok (.getfield 28, 3) := by decide +kernel
theorem d_Trip_leastBroken_14 : decode u_Trip_leastBroken.2.2.1 14 = .ok (.iload_n 1, 1) := by decide +kernel
theorem d_Trip_leastBroken_15 : decode u_Trip_leastBroken.2.2.1 15 = .ok (.aload_n 0, 1) := by decide +kernel
theorem d_Trip_leastBroken_16 : decode u_Trip_leastBroken.2.2.1 16 = .ok (.getfield 12, 3) := by decide +kernel
theorem d_Trip_leastBroken_19 : decode u_Trip_leastBroken.2.2.1 19 = .ok (.getfield 82, 3) := by decide +kernel
theorem d_Trip_leastBroken_22 : decode u_Trip_leastBroken.2.2.1 22 = .ok (.invokevirtual 101, 3) := by decide +kernel
theorem d_Trip_leastBroken_25 : decode u_Trip_leastBroken.2.2.1 25 = .ok (.ifCond .ne 5, 3) := by decide +kernel
theorem d_Trip_leastBroken_28 : decode u_Trip_leastBroken.2.2.1 28 = .ok (.iconst 1, 1) := by decide +kernel
theorem d_Trip_leastBroken_29 : decode u_Trip_leastBroken.2.2.1 29 = .ok (.ireturn, 1) := by decide +kernel
theorem d_Trip_leastBroken_30 : decode u_Trip_leastBroken.2.2.1 30 = .ok (.aload_n 0, 1) := by decide +kernel
theorem d_Trip_leastBroken_31 : decode u_Trip_leastBroken.2.2.1 31 = .ok (.invokevirtual 105, 3) := by decide +kernel
theorem d_Trip_leastBroken_34 : decode u_Trip_leastBroken.2.2.1 34 = .ok (.ifCond .ne 5, 3) := by decide +kernel
theorem d_Trip_leastBroken_37 : decode u_Trip_leastBroken.2.2.1 37 = .ok (.iconst 2, 1) := by decide +kernel
theorem d_Trip_leastBroken_38 : decode u_Trip_leastBroken.2.2.1 38 = .ok (.ireturn, 1) := by decide +kernel
theorem d_Trip_leastBroken_39 : decode u_Trip_leastBroken.2.2.1 39 = .ok (.aload_n 0, 1) := by decide +kernel
theorem d_Trip_leastBroken_40 : decode u_Trip_leastBroken.2.2.1 40 = .ok (.invokevirtual 109, 3) := by decide +kernel
theorem d_Trip_leastBroken_43 : decode u_Trip_leastBroken.2.2.1 43 = .ok (.ifCond .eq 5, 3) := by decide +kernel
theorem d_Trip_leastBroken_46 : decode u_Trip_leastBroken.2.2.1 46 = .ok (.iconst 3, 1) := by decide +kernel
theorem d_Trip_leastBroken_47 : decode u_Trip_leastBroken.2.2.1 47 = .ok (.ireturn, 1) := by decide +kernel
theorem d_Trip_leastBroken_48 : decode u_Trip_leastBroken.2.2.1 48 = .ok (.aload_n 0, 1) := by decide +kernel
theorem d_Trip_leastBroken_49 : decode u_Trip_leastBroken.2.2.1 49 = .ok (.invokevirtual 112, 3) := by decide +kernel
theorem d_Trip_leastBroken_52 : decode u_Trip_leastBroken.2.2.1 52 = .ok (.ifCond .eq 5, 3) := by decide +kernel
theorem d_Trip_leastBroken_55 : decode u_Trip_leastBroken.2.2.1 55 = .ok (.iconst 4, 1) := by decide +kernel
theorem d_Trip_leastBroken_56 : decode u_Trip_leastBroken.2.2.1 56 = .ok (.ireturn, 1) := by decide +kernel
theorem d_Trip_leastBroken_57 : decode u_Trip_leastBroken.2.2.1 57 = .ok (.aload_n 0, 1) := by decide +kernel
theorem d_Trip_leastBroken_58 : decode u_Trip_leastBroken.2.2.1 58 = .ok (.invokevirtual 115, 3) := by decide +kernel
theorem d_Trip_leastBroken_61 : decode u_Trip_leastBroken.2.2.1 61 = .ok (.ifCond .eq 5, 3) := by decide +kernel
theorem d_Trip_leastBroken_64 : decode u_Trip_leastBroken.2.2.1 64 = .ok (.iconst 5, 1) := by decide +kernel
theorem d_Trip_leastBroken_65 : decode u_Trip_leastBroken.2.2.1 65 = .ok (.ireturn, 1) := by decide +kernel
theorem d_Trip_leastBroken_66 : decode u_Trip_leastBroken.2.2.1 66 = .ok (.aload_n 0, 1) := by decide +kernel
theorem d_Trip_leastBroken_67 : decode u_Trip_leastBroken.2.2.1 67 = .ok (.getfield 28, 3) := by decide +kernel
theorem d_Trip_leastBroken_70 : decode u_Trip_leastBroken.2.2.1 70 = .ok (.getfield 73, 3) := by decide +kernel
theorem d_Trip_leastBroken_73 : decode u_Trip_leastBroken.2.2.1 73 = .ok (.bipush 9, 2) := by decide +kernel
theorem d_Trip_leastBroken_75 : decode u_Trip_leastBroken.2.2.1 75 = .ok (.iaload, 1) := by decide +kernel
theorem d_Trip_leastBroken_76 : decode u_Trip_leastBroken.2.2.1 76 = .ok (.iconst 1, 1) := by decide +kernel
theorem d_Trip_leastBroken_77 : decode u_Trip_leastBroken.2.2.1 77 = .ok (.if_icmp .ne 13, 3) := by decide +kernel
theorem d_Trip_leastBroken_80 : decode u_Trip_leastBroken.2.2.1 80 = .ok (.aload_n 0, 1) := by decide +kernel
theorem d_Trip_leastBroken_81 : decode u_Trip_leastBroken.2.2.1 81 = .ok (.invokevirtual 118, 3) := by decide +kernel
theorem d_Trip_leastBroken_84 : decode u_Trip_leastBroken.2.2.1 84 = .ok (.ifCond .eq 6, 3) := by decide +kernel
theorem d_Trip_leastBroken_87 : decode u_Trip_leastBroken.2.2.1 87 = .ok (.bipush 6, 2) := by decide +kernel
theorem d_Trip_leastBroken_89 : decode u_Trip_leastBroken.2.2.1 89 = .ok (.ireturn, 1) := by decide +kernel
theorem d_Trip_leastBroken_90 : decode u_Trip_leastBroken.2.2.1 90 = .ok (.aload_n 0, 1) := by decide +kernel
theorem d_Trip_leastBroken_91 : decode u_Trip_leastBroken.2.2.1 91 = .ok (.getfield 51, 3) := by decide +kernel
theorem d_Trip_leastBroken_94 : decode u_Trip_leastBroken.2.2.1 94 = .ok (.aload_n 0, 1) := by decide +kernel
theorem d_Trip_leastBroken_95 : decode u_Trip_leastBroken.2.2.1 95 = .ok (.getfield 28, 3) := by decide +kernel
theorem d_Trip_leastBroken_98 : decode u_Trip_leastBroken.2.2.1 98 = .ok (.getfield 73, 3) := by decide +kernel
theorem d_Trip_leastBroken_101 : decode u_Trip_leastBroken.2.2.1 101 = .ok (.bipush 6, 2) := by decide +kernel
theorem d_Trip_leastBroken_103 : decode u_Trip_leastBroken.2.2.1 103 = .ok (.iaload, 1) := by decide +kernel
theorem d_Trip_leastBroken_104 : decode u_Trip_leastBroken.2.2.1 104 = .ok (.if_icmp .le 6, 3) := by decide +kernel
theorem d_Trip_leastBroken_107 : decode u_Trip_leastBroken.2.2.1 107 = .ok (.bipush 7, 2) := by decide +kernel
theorem d_Trip_leastBroken_109 : decode u_Trip_leastBroken.2.2.1 109 = .ok (.ireturn, 1) := by decide +kernel
theorem d_Trip_leastBroken_110 : decode u_Trip_leastBroken.2.2.1 110 = .ok (.aload_n 0, 1) := by decide +kernel
theorem d_Trip_leastBroken_111 : decode u_Trip_leastBroken.2.2.1 111 = .ok (.aload_n 0, 1) := by decide +kernel
theorem d_Trip_leastBroken_112 : decode u_Trip_leastBroken.2.2.1 112 = .ok (.getfield 12, 3) := by decide +kernel
theorem d_Trip_leastBroken_115 : decode u_Trip_leastBroken.2.2.1 115 = .ok (.getfield 35, 3) := by decide +kernel
theorem d_Trip_leastBroken_118 : decode u_Trip_leastBroken.2.2.1 118 = .ok (.iconst 1, 1) := by decide +kernel
theorem d_Trip_leastBroken_119 : decode u_Trip_leastBroken.2.2.1 119 = .ok (.isub, 1) := by decide +kernel
theorem d_Trip_leastBroken_120 : decode u_Trip_leastBroken.2.2.1 120 = .ok (.invokevirtual 63, 3) := by decide +kernel
theorem d_Trip_leastBroken_123 : decode u_Trip_leastBroken.2.2.1 123 = .ok (.getfield 121, 3) := by decide +kernel
theorem d_Trip_leastBroken_126 : decode u_Trip_leastBroken.2.2.1 126 = .ok (.aload_n 0, 1) := by decide +kernel
theorem d_Trip_leastBroken_127 : decode u_Trip_leastBroken.2.2.1 127 = .ok (.getfield 12, 3) := by decide +kernel
theorem d_Trip_leastBroken_130 : decode u_Trip_leastBroken.2.2.1 130 = .ok (.getfield 82, 3) := by decide +kernel
theorem d_Trip_leastBroken_133 : decode u_Trip_leastBroken.2.2.1 133 = .ok (.if_icmp .eq 6, 3) := by decide +kernel
theorem d_Trip_leastBroken_136 : decode u_Trip_leastBroken.2.2.1 136 = .ok (.bipush 8, 2) := by decide +kernel
theorem d_Trip_leastBroken_138 : decode u_Trip_leastBroken.2.2.1 138 = .ok (.ireturn, 1) := by decide +kernel
theorem d_Trip_leastBroken_139 : decode u_Trip_leastBroken.2.2.1 139 = .ok (.aload_n 0, 1) := by decide +kernel
theorem d_Trip_leastBroken_140 : decode u_Trip_leastBroken.2.2.1 140 = .ok (.getfield 12, 3) := by decide +kernel
theorem d_Trip_leastBroken_143 : decode u_Trip_leastBroken.2.2.1 143 = .ok (.getfield 88, 3) := by decide +kernel
theorem d_Trip_leastBroken_146 : decode u_Trip_leastBroken.2.2.1 146 = .ok (.aload_n 0, 1) := by decide +kernel
theorem d_Trip_leastBroken_147 : decode u_Trip_leastBroken.2.2.1 147 = .ok (.getfield 12, 3) := by decide +kernel
theorem d_Trip_leastBroken_150 : decode u_Trip_leastBroken.2.2.1 150 = .ok (.getfield 85, 3) := by decide +kernel
theorem d_Trip_leastBroken_153 : decode u_Trip_leastBroken.2.2.1 153 = .ok (.isub, 1) := by decide +kernel
theorem d_Trip_leastBroken_154 : decode u_Trip_leastBroken.2.2.1 154 = .ok (.aload_n 0, 1) := by decide +kernel
theorem d_Trip_leastBroken_155 : decode u_Trip_leastBroken.2.2.1 155 = .ok (.getfield 28, 3) := by decide +kernel
theorem d_Trip_leastBroken_158 : decode u_Trip_leastBroken.2.2.1 158 = .ok (.getfield 73, 3) := by decide +kernel
theorem d_Trip_leastBroken_161 : decode u_Trip_leastBroken.2.2.1 161 = .ok (.bipush 7, 2) := by decide +kernel
theorem d_Trip_leastBroken_163 : decode u_Trip_leastBroken.2.2.1 163 = .ok (.iaload, 1) := by decide +kernel
theorem d_Trip_leastBroken_164 : decode u_Trip_leastBroken.2.2.1 164 = .ok (.if_icmp .le 6, 3) := by decide +kernel
theorem d_Trip_leastBroken_167 : decode u_Trip_leastBroken.2.2.1 167 = .ok (.bipush 9, 2) := by decide +kernel
theorem d_Trip_leastBroken_169 : decode u_Trip_leastBroken.2.2.1 169 = .ok (.ireturn, 1) := by decide +kernel
theorem d_Trip_leastBroken_170 : decode u_Trip_leastBroken.2.2.1 170 = .ok (.iload_n 1, 1) := by decide +kernel
theorem d_Trip_leastBroken_171 : decode u_Trip_leastBroken.2.2.1 171 = .ok (.iconst (-1), 1) := by decide +kernel
theorem d_Trip_leastBroken_172 : decode u_Trip_leastBroken.2.2.1 172 = .ok (.if_icmp .ne 7, 3) := by decide +kernel
theorem d_Trip_leastBroken_175 : decode u_Trip_leastBroken.2.2.1 175 = .ok (.iconst 0, 1) := by decide +kernel
theorem d_Trip_leastBroken_176 : decode u_Trip_leastBroken.2.2.1 176 = .ok (.goto 29, 3) := by decide +kernel
theorem d_Trip_leastBroken_179 : decode u_Trip_leastBroken.2.2.1 179 = .ok (.aload_n 0, 1) := by decide +kernel
theorem d_Trip_leastBroken_180 : decode u_Trip_leastBroken.2.2.1 180 = .ok (.getfield 28, 3) := by decide +kernel
theorem d_Trip_leastBroken_183 : decode u_Trip_leastBroken.2.2.1 183 = .ok (.getfield 124, 3) := by decide +kernel
theorem d_Trip_leastBroken_186 : decode u_Trip_leastBroken.2.2.1 186 = .ok (.iload_n 1, 1) := by decide +kernel
theorem d_Trip_leastBroken_187 : decode u_Trip_leastBroken.2.2.1 187 = .ok (.aaload, 1) := by decide +kernel
theorem d_Trip_leastBroken_188 : decode u_Trip_leastBroken.2.2.1 188 = .ok (.aload_n 0, 1) := by decide +kernel
theorem d_Trip_leastBroken_189 : decode u_Trip_leastBroken.2.2.1 189 = .ok (.getfield 12, 3) := by decide +kernel
theorem d_Trip_leastBroken_192 : decode u_Trip_leastBroken.2.2.1 192 = .ok (.aload_n 0, 1) := by decide +kernel
theorem d_Trip_leastBroken_193 : decode u_Trip_leastBroken.2.2.1 193 = .ok (.getfield 28, 3) := by decide +kernel
theorem d_Trip_leastBroken_196 : decode u_Trip_leastBroken.2.2.1 196 = .ok (.getfield 73, 3) := by decide +kernel
theorem d_Trip_leastBroken_199 : decode u_Trip_leastBroken.2.2.1 199 = .ok (.bipush 10, 2) := by decide +kernel
theorem d_Trip_leastBroken_201 : decode u_Trip_leastBroken.2.2.1 201 = .ok (.iaload, 1) := by decide +kernel
theorem d_Trip_leastBroken_202 : decode u_Trip_leastBroken.2.2.1 202 = .ok (.invokevirtual 128, 3) := by decide +kernel
theorem d_Trip_leastBroken_205 : decode u_Trip_leastBroken.2.2.1 205 = .ok (.ireturn, 1) := by decide +kernel
theorem w_Trip_leastBroken : am_code y_Trip_leastBroken u_Trip_leastBroken ∈ am_ws := am_mem (List.mem_of_getElem? (i := 505) (by decide +kernel)) rfl
def a_Trip_leastBroken_0 (rc : Nat → Nat → Int32 → am_M → Option (Int32)) (r0 : Nat) (x1 : Int32) (M : am_M) : Option (Int32) := (q_gti M r0 5 2).bind (fun t91 => (q_gtr M r0 5 0).bind (fun t95 => (q_gtr M t95 3 3).bind (fun t98 => (q_ldi M t98 (6 : Int32)).bind (fun t103 => if t91 ≤ t103 then ((q_gtr M r0 5 1).bind (fun t112 => (q_gti M t112 4 1).bind (fun t115 => (q_ob M r0 5).bind (fun o120 => (f_Trip_legAt M r0 (t115 - (1 : Int32))).bind (fun t120 => (q_gti M t120 1 2).bind (fun t123 => (q_gtr M r0 5 1).bind (fun t127 => (q_gti M t127 4 2).bind (fun t130 => if t123 = t130 then ((q_gtr M r0 5 1).bind (fun t140 => (q_gti M t140 4 4).bind (fun t143 => (q_gtr M r0 5 1).bind (fun t147 => (q_gti M t147 4 3).bind (fun t150 => (q_gtr M r0 5 0).bind (fun t155 => (q_gtr M t155 3 3).bind (fun t158 => (q_ldi M t158 (7 : Int32)).bind (fun t163 => if (t143 - t150) ≤ t163 then (if x1 = (-1 : Int32) then (some (0 : Int32)) else ((q_gtr M r0 5 0).bind (fun t180 => (q_gtr M t180 3 2).bind (fun t183 => (q_ldr M t183 x1).bind (fun t187 => (q_gtr M r0 5 1).bind (fun t189 => (q_gtr M r0 5 0).bind (fun t193 => (q_gtr M t193 3 3).bind (fun t196 => (q_ldi M t196 (10 : Int32)).bind (fun t201 => (q_ob M t187 2).bind (fun o202 => (f_Member_leastOwnBroken M t187 t189 t201).bind (fun t202 => some t202))))))))))) else (some (9 : Int32)))))))))) else (some (8 : Int32)))))))))) else (some (7 : Int32))))))
def g_Trip_leastBroken : Nat → Nat → Nat → Int32 → am_M → Option (Int32)
  | 0, _, _, _, _ => none
  | F + 1, 0, r0, x1, M => a_Trip_leastBroken_0 (g_Trip_leastBroken F) r0 x1 M
  | _ + 1, _ + 1, _, _, _ => none
def e_Trip_leastBroken (rc : Nat → Nat → Int32 → am_M → Option (Int32)) (M : am_M) (a0 : Nat) (a1 : Int32) : Option (Int32) := (q_gtr M a0 5 1).bind (fun t1 => (q_gti M t1 4 1).bind (fun t4 => if t4 = 0 then (some (1 : Int32)) else ((q_gtr M a0 5 0).bind (fun t11 => (q_gtr M a0 5 1).bind (fun t16 => (q_gti M t16 4 2).bind (fun t19 => (q_ob M t11 3).bind (fun o22 => (f_Plan_isBase M t11 a1 t19).bind (fun t22 => if t22 = 0 then (some (1 : Int32)) else ((q_ob M a0 5).bind (fun o31 => (f_Trip_isLinked M a0).bind (fun t31 => if t31 = 0 then (some (2 : Int32)) else ((q_ob M a0 5).bind (fun o40 => (f_Trip_hasTooManyLegs M a0).bind (fun t40 => if t40 = 0 then ((q_ob M a0 5).bind (fun o49 => (f_Trip_hasTooLongDuty M a0).bind (fun t49 => if t49 = 0 then ((q_ob M a0 5).bind (fun o58 => (f_Trip_hasTooShortRest M a0).bind (fun t58 => if t58 = 0 then ((q_gtr M a0 5 0).bind (fun t67 => (q_gtr M t67 3 3).bind (fun t70 => (q_ldi M t70 (9 : Int32)).bind (fun t75 => if t75 = (1 : Int32) then ((q_ob M a0 5).bind (fun o81 => (f_Trip_lacksNightRest M a0).bind (fun t81 => if t81 = 0 then (rc 0 a0 a1 M) else (some (6 : Int32))))) else (rc 0 a0 a1 M))))) else (some (5 : Int32))))) else (some (4 : Int32))))) else (some (3 : Int32))))))))))))))))
def f_Trip_leastBroken (M : am_M) (a0 : Nat) (a1 : Int32) : Option (Int32) := e_Trip_leastBroken (g_Trip_leastBroken 1000000000) M a0 a1
theorem fl_Trip_121 : am_fl "CrewOffice$Trip" 121 1 2 := ⟨by decide, by decide, List.mem_of_getElem? (i := 139) (by decide +kernel)⟩
theorem fl_Trip_124 : am_fl "CrewOffice$Trip" 124 3 2 := ⟨by decide, by decide, List.mem_of_getElem? (i := 228) (by decide +kernel)⟩
theorem kV_Trip_101 : am_kV "CrewOffice$Trip" 101 3 y_Plan_isBase u_Plan_isBase 2 := ⟨List.mem_of_getElem? (i := 506) (by decide +kernel), ⟨List.mem_of_getElem? (i := 483) (by decide +kernel), List.mem_of_getElem? (i := 484) (by decide +kernel)⟩, List.mem_of_getElem? (i := 55) (by decide +kernel), w_Plan_isBase, ⟨⟨by decide +kernel, by decide +kernel⟩, by decide +kernel⟩⟩
theorem kV_Trip_105 : am_kV "CrewOffice$Trip" 105 5 y_Trip_isLinked u_Trip_isLinked 0 := ⟨List.mem_of_getElem? (i := 507) (by decide +kernel), ⟨List.mem_of_getElem? (i := 509) (by decide +kernel), List.mem_of_getElem? (i := 4) (by decide +kernel)⟩, List.mem_of_getElem? (i := 60) (by decide +kernel), w_Trip_isLinked, ⟨⟨by decide +kernel, by decide +kernel⟩, by decide +kernel⟩⟩
theorem kV_Trip_109 : am_kV "CrewOffice$Trip" 109 5 y_Trip_hasTooManyLegs u_Trip_hasTooManyLegs 0 := ⟨List.mem_of_getElem? (i := 512) (by decide +kernel), ⟨List.mem_of_getElem? (i := 514) (by decide +kernel), List.mem_of_getElem? (i := 5) (by decide +kernel)⟩, List.mem_of_getElem? (i := 60) (by decide +kernel), w_Trip_hasTooManyLegs, ⟨⟨by decide +kernel, by decide +kernel⟩, by decide +kernel⟩⟩
theorem kV_Trip_112 : am_kV "CrewOffice$Trip" 112 5 y_Trip_hasTooLongDuty u_Trip_hasTooLongDuty 0 := ⟨List.mem_of_getElem? (i := 520) (by decide +kernel), ⟨List.mem_of_getElem? (i := 522) (by decide +kernel), List.mem_of_getElem? (i := 7) (by decide +kernel)⟩, List.mem_of_getElem? (i := 60) (by decide +kernel), w_Trip_hasTooLongDuty, ⟨⟨by decide +kernel, by decide +kernel⟩, by decide +kernel⟩⟩
theorem kV_Trip_115 : am_kV "CrewOffice$Trip" 115 5 y_Trip_hasTooShortRest u_Trip_hasTooShortRest 0 := ⟨List.mem_of_getElem? (i := 546) (by decide +kernel), ⟨List.mem_of_getElem? (i := 548) (by decide +kernel), List.mem_of_getElem? (i := 10) (by decide +kernel)⟩, List.mem_of_getElem? (i := 60) (by decide +kernel), w_Trip_hasTooShortRest, ⟨⟨by decide +kernel, by decide +kernel⟩, by decide +kernel⟩⟩
theorem kV_Trip_118 : am_kV "CrewOffice$Trip" 118 5 y_Trip_lacksNightRest u_Trip_lacksNightRest 0 := ⟨List.mem_of_getElem? (i := 553) (by decide +kernel), ⟨List.mem_of_getElem? (i := 555) (by decide +kernel), List.mem_of_getElem? (i := 11) (by decide +kernel)⟩, List.mem_of_getElem? (i := 60) (by decide +kernel), w_Trip_lacksNightRest, ⟨⟨by decide +kernel, by decide +kernel⟩, by decide +kernel⟩⟩
theorem kV_Trip_128 : am_kV "CrewOffice$Trip" 128 2 y_Member_leastOwnBroken u_Member_leastOwnBroken 2 := ⟨List.mem_of_getElem? (i := 570) (by decide +kernel), ⟨List.mem_of_getElem? (i := 571) (by decide +kernel), List.mem_of_getElem? (i := 572) (by decide +kernel)⟩, List.mem_of_getElem? (i := 58) (by decide +kernel), w_Member_leastOwnBroken, ⟨⟨by decide +kernel, by decide +kernel⟩, by decide +kernel⟩⟩
set_option maxHeartbeats 4000000 in
theorem s_Trip_leastBroken_0 {rc : Nat → Nat → Int32 → am_M → Option (Int32)} {res : Int32} (ih_0 : ∀ (r0 : Nat) (x1 : Int32) (M : am_M), rc 0 r0 x1 M = some res → AW u_Trip_leastBroken R_Trip_leastBroken 0 0 90 [(0, .ref r0), (1, .int x1)] [] M (fun r M2 => r = .inl (some (.int res)) ∧ M2 = M)) : ∀ (r0 : Nat) (x1 : Int32) (M : am_M), a_Trip_leastBroken_0 rc r0 x1 M = some res → AW u_Trip_leastBroken R_Trip_leastBroken 0 0 90 [(0, .ref r0), (1, .int x1)] [] M (fun r M2 => r = .inl (some (.int res)) ∧ M2 = M) := by
  intro r0 x1 M h
  unfold a_Trip_leastBroken_0 at h
  refine aw_aload_n d_Trip_leastBroken_90 rfl rfl ?_
  obtain ⟨t91, e_t91, h⟩ := q_bind h
  refine aw_gti d_Trip_leastBroken_91 fl_Trip_51 (Or.inl rfl) e_t91 ?_
  refine aw_aload_n d_Trip_leastBroken_94 rfl rfl ?_
  obtain ⟨t95, e_t95, h⟩ := q_bind h
  refine aw_gtr d_Trip_leastBroken_95 fl_Trip_28 (Or.inl ⟨_, rfl⟩) e_t95 ?_
  obtain ⟨t98, e_t98, h⟩ := q_bind h
  refine aw_gtr d_Trip_leastBroken_98 fl_Trip_73 (Or.inr ⟨_, rfl⟩) e_t98 ?_
  refine aw_bipush (v := 6) d_Trip_leastBroken_101 (by decide) ?_
  obtain ⟨t103, e_t103, h⟩ := q_bind h
  refine aw_ldi d_Trip_leastBroken_103 e_t103 ?_
  refine aw_icmp_le (tgt := 110) d_Trip_leastBroken_104 (by decide) (fun hc => ?_) (fun hc => ?_)
  · rw [if_pos hc] at h
    refine aw_aload_n d_Trip_leastBroken_110 rfl rfl ?_
    refine aw_aload_n d_Trip_leastBroken_111 rfl rfl ?_
    obtain ⟨t112, e_t112, h⟩ := q_bind h
    refine aw_gtr d_Trip_leastBroken_112 fl_Trip_12 (Or.inl ⟨_, rfl⟩) e_t112 ?_
    obtain ⟨t115, e_t115, h⟩ := q_bind h
    refine aw_gti d_Trip_leastBroken_115 fl_Trip_35 (Or.inl rfl) e_t115 ?_
    refine aw_iconst (v := 1) d_Trip_leastBroken_118 (by decide) ?_
    refine aw_isub d_Trip_leastBroken_119 ?_
    obtain ⟨o120, e_o120, h⟩ := q_bind h
    obtain ⟨t120, e_t120, h⟩ := q_bind h
    refine aw_cV (v := (some (.ref t120))) (As := [.int (t115 - (1 : Int32))]) (rest := []) (st' := [.ref t120]) d_Trip_leastBroken_120 kV_Trip_63 (q_ob_spec e_o120).1 (q_ob_spec e_o120).2 ⟨Nat.le_of_ble_eq_true rfl, Nat.le_of_ble_eq_true rfl, Nat.le_of_ble_eq_true rfl, Nat.le_of_ble_eq_true rfl⟩ rfl rfl (Nat.le_of_ble_eq_true rfl) rfl (mt_Trip_legAt e_t120) ?_
    obtain ⟨t123, e_t123, h⟩ := q_bind h
    refine aw_gti d_Trip_leastBroken_123 fl_Trip_121 (Or.inl rfl) e_t123 ?_
    refine aw_aload_n d_Trip_leastBroken_126 rfl rfl ?_
    obtain ⟨t127, e_t127, h⟩ := q_bind h
    refine aw_gtr d_Trip_leastBroken_127 fl_Trip_12 (Or.inl ⟨_, rfl⟩) e_t127 ?_
    obtain ⟨t130, e_t130, h⟩ := q_bind h
    refine aw_gti d_Trip_leastBroken_130 fl_Trip_82 (Or.inl rfl) e_t130 ?_
    refine aw_icmp_eq (tgt := 139) d_Trip_leastBroken_133 (by decide) (fun hc => ?_) (fun hc => ?_)
    · rw [if_pos hc] at h
      refine aw_aload_n d_Trip_leastBroken_139 rfl rfl ?_
      obtain ⟨t140, e_t140, h⟩ := q_bind h
      refine aw_gtr d_Trip_leastBroken_140 fl_Trip_12 (Or.inl ⟨_, rfl⟩) e_t140 ?_
      obtain ⟨t143, e_t143, h⟩ := q_bind h
      refine aw_gti d_Trip_leastBroken_143 fl_Trip_88 (Or.inl rfl) e_t143 ?_
      refine aw_aload_n d_Trip_leastBroken_146 rfl rfl ?_
      obtain ⟨t147, e_t147, h⟩ := q_bind h
      refine aw_gtr d_Trip_leastBroken_147 fl_Trip_12 (Or.inl ⟨_, rfl⟩) e_t147 ?_
      obtain ⟨t150, e_t150, h⟩ := q_bind h
      refine aw_gti d_Trip_leastBroken_150 fl_Trip_85 (Or.inl rfl) e_t150 ?_
      refine aw_isub d_Trip_leastBroken_153 ?_
      refine aw_aload_n d_Trip_leastBroken_154 rfl rfl ?_
      obtain ⟨t155, e_t155, h⟩ := q_bind h
      refine aw_gtr d_Trip_leastBroken_155 fl_Trip_28 (Or.inl ⟨_, rfl⟩) e_t155 ?_
      obtain ⟨t158, e_t158, h⟩ := q_bind h
      refine aw_gtr d_Trip_leastBroken_158 fl_Trip_73 (Or.inr ⟨_, rfl⟩) e_t158 ?_
      refine aw_bipush (v := 7) d_Trip_leastBroken_161 (by decide) ?_
      obtain ⟨t163, e_t163, h⟩ := q_bind h
      refine aw_ldi d_Trip_leastBroken_163 e_t163 ?_
      refine aw_icmp_le (tgt := 170) d_Trip_leastBroken_164 (by decide) (fun hc => ?_) (fun hc => ?_)
      · rw [if_pos hc] at h
        refine aw_iload_n d_Trip_leastBroken_170 rfl rfl ?_
        refine aw_iconst (v := -1) d_Trip_leastBroken_171 (by decide) ?_
        refine aw_icmp_ne (tgt := 179) d_Trip_leastBroken_172 (by decide) (fun hc => ?_) (fun hc => ?_)
        · rw [if_neg hc] at h
          refine aw_aload_n d_Trip_leastBroken_179 rfl rfl ?_
          obtain ⟨t180, e_t180, h⟩ := q_bind h
          refine aw_gtr d_Trip_leastBroken_180 fl_Trip_28 (Or.inl ⟨_, rfl⟩) e_t180 ?_
          obtain ⟨t183, e_t183, h⟩ := q_bind h
          refine aw_gtr d_Trip_leastBroken_183 fl_Trip_124 (Or.inr ⟨_, rfl⟩) e_t183 ?_
          refine aw_iload_n d_Trip_leastBroken_186 rfl rfl ?_
          obtain ⟨t187, e_t187, h⟩ := q_bind h
          refine aw_ldr d_Trip_leastBroken_187 e_t187 ?_
          refine aw_aload_n d_Trip_leastBroken_188 rfl rfl ?_
          obtain ⟨t189, e_t189, h⟩ := q_bind h
          refine aw_gtr d_Trip_leastBroken_189 fl_Trip_12 (Or.inl ⟨_, rfl⟩) e_t189 ?_
          refine aw_aload_n d_Trip_leastBroken_192 rfl rfl ?_
          obtain ⟨t193, e_t193, h⟩ := q_bind h
          refine aw_gtr d_Trip_leastBroken_193 fl_Trip_28 (Or.inl ⟨_, rfl⟩) e_t193 ?_
          obtain ⟨t196, e_t196, h⟩ := q_bind h
          refine aw_gtr d_Trip_leastBroken_196 fl_Trip_73 (Or.inr ⟨_, rfl⟩) e_t196 ?_
          refine aw_bipush (v := 10) d_Trip_leastBroken_199 (by decide) ?_
          obtain ⟨t201, e_t201, h⟩ := q_bind h
          refine aw_ldi d_Trip_leastBroken_201 e_t201 ?_
          obtain ⟨o202, e_o202, h⟩ := q_bind h
          obtain ⟨t202, e_t202, h⟩ := q_bind h
          refine aw_cV (v := (some (.int t202))) (As := [.ref t189, .int t201]) (rest := []) (st' := [.int t202]) d_Trip_leastBroken_202 kV_Trip_128 (q_ob_spec e_o202).1 (q_ob_spec e_o202).2 ⟨Nat.le_of_ble_eq_true rfl, Nat.le_of_ble_eq_true rfl, Nat.le_of_ble_eq_true rfl, Nat.le_of_ble_eq_true rfl⟩ rfl rfl (Nat.le_of_ble_eq_true rfl) rfl (mt_Member_leastOwnBroken e_t202) ?_
          cases h
          exact aw_ireturn d_Trip_leastBroken_205 rfl (Nat.le_of_ble_eq_true rfl) (Nat.le_of_ble_eq_true rfl) ⟨rfl, rfl⟩
        · rw [if_pos hc] at h
          refine aw_iconst (v := 0) d_Trip_leastBroken_175 (by decide) ?_
          refine aw_goto (tgt := 205) d_Trip_leastBroken_176 (by decide) ?_
          cases h
          exact aw_ireturn d_Trip_leastBroken_205 rfl (Nat.le_of_ble_eq_true rfl) (Nat.le_of_ble_eq_true rfl) ⟨rfl, rfl⟩
      · rw [if_neg hc] at h
        refine aw_bipush (v := 9) d_Trip_leastBroken_167 (by decide) ?_
        cases h
        exact aw_ireturn d_Trip_leastBroken_169 rfl (Nat.le_of_ble_eq_true rfl) (Nat.le_of_ble_eq_true rfl) ⟨rfl, rfl⟩
    · rw [if_neg hc] at h
      refine aw_bipush (v := 8) d_Trip_leastBroken_136 (by decide) ?_
      cases h
      exact aw_ireturn d_Trip_leastBroken_138 rfl (Nat.le_of_ble_eq_true rfl) (Nat.le_of_ble_eq_true rfl) ⟨rfl, rfl⟩
  · rw [if_neg hc] at h
    refine aw_bipush (v := 7) d_Trip_leastBroken_107 (by decide) ?_
    cases h
    exact aw_ireturn d_Trip_leastBroken_109 rfl (Nat.le_of_ble_eq_true rfl) (Nat.le_of_ble_eq_true rfl) ⟨rfl, rfl⟩
theorem l_Trip_leastBroken {res : Int32} : ∀ F : Nat, (∀ (r0 : Nat) (x1 : Int32) (M : am_M), g_Trip_leastBroken F 0 r0 x1 M = some res → AW u_Trip_leastBroken R_Trip_leastBroken 0 0 90 [(0, .ref r0), (1, .int x1)] [] M (fun r M2 => r = .inl (some (.int res)) ∧ M2 = M)) := by
  intro F
  induction F with
  | zero => exact fun _ _ _  h => (by cases h)
  | succ F ih =>
    have ih0 := ih
    exact s_Trip_leastBroken_0 ih0
set_option maxHeartbeats 4000000 in
theorem mt_Trip_leastBroken {M : am_M} {a0 : Nat} {a1 : Int32} {res : Int32} (h : f_Trip_leastBroken M a0 a1 = some res) : AMet y_Trip_leastBroken u_Trip_leastBroken R_Trip_leastBroken [.ref a0, .int a1] M (fun r M2 => r = .inl (some (.int res)) ∧ M2 = M) := by
  refine am_met (by decide +kernel) w_Trip_leastBroken rfl rfl (Nat.le_of_ble_eq_true rfl) ?_
  show AW u_Trip_leastBroken R_Trip_leastBroken 0 0 0 [(0, .ref a0), (1, .int a1)] [] M (fun r M2 => r = .inl (some (.int res)) ∧ M2 = M)
  have ih_0 := (l_Trip_leastBroken (res := res) 1000000000)
  unfold f_Trip_leastBroken at h
  unfold e_Trip_leastBroken at h
  generalize g_Trip_leastBroken 1000000000 = rc at h ih_0
  refine aw_aload_n d_Trip_leastBroken_0 rfl rfl ?_
  obtain ⟨t1, e_t1, h⟩ := q_bind h
  refine aw_gtr d_Trip_leastBroken_1 fl_Trip_12 (Or.inl ⟨_, rfl⟩) e_t1 ?_
  obtain ⟨t4, e_t4, h⟩ := q_bind h
  refine aw_gti d_Trip_leastBroken_4 fl_Trip_35 (Or.inl rfl) e_t4 ?_
  refine aw_if_eq (tgt := 28) d_Trip_leastBroken_7 (by decide) (fun hc => ?_) (fun hc => ?_)
  · rw [if_pos hc] at h
    refine aw_iconst (v := 1) d_Trip_leastBroken_28 (by decide) ?_
    cases h
    exact aw_ireturn d_Trip_leastBroken_29 rfl (Nat.le_of_ble_eq_true rfl) (Nat.le_of_ble_eq_true rfl) ⟨rfl, rfl⟩
  · rw [if_neg hc] at h
    refine aw_aload_n d_Trip_leastBroken_10 rfl rfl ?_
    obtain ⟨t11, e_t11, h⟩ := q_bind h
    refine aw_gtr d_Trip_leastBroken_11 fl_Trip_28 (Or.inl ⟨_, rfl⟩) e_t11 ?_
    refine aw_iload_n d_Trip_leastBroken_14 rfl rfl ?_
    refine aw_aload_n d_Trip_leastBroken_15 rfl rfl ?_
    obtain ⟨t16, e_t16, h⟩ := q_bind h
    refine aw_gtr d_Trip_leastBroken_16 fl_Trip_12 (Or.inl ⟨_, rfl⟩) e_t16 ?_
    obtain ⟨t19, e_t19, h⟩ := q_bind h
    refine aw_gti d_Trip_leastBroken_19 fl_Trip_82 (Or.inl rfl) e_t19 ?_
    obtain ⟨o22, e_o22, h⟩ := q_bind h
    obtain ⟨t22, e_t22, h⟩ := q_bind h
    refine aw_cV (v := (some (.int t22))) (As := [.int a1, .int t19]) (rest := []) (st' := [.int t22]) d_Trip_leastBroken_22 kV_Trip_101 (q_ob_spec e_o22).1 (q_ob_spec e_o22).2 ⟨Nat.le_of_ble_eq_true rfl, Nat.le_of_ble_eq_true rfl, Nat.le_of_ble_eq_true rfl, Nat.le_of_ble_eq_true rfl⟩ rfl rfl (Nat.le_of_ble_eq_true rfl) rfl (mt_Plan_isBase e_t22) ?_
    refine aw_if_ne (tgt := 30) d_Trip_leastBroken_25 (by decide) (fun hc => ?_) (fun hc => ?_)
    · rw [if_neg hc] at h
      refine aw_aload_n d_Trip_leastBroken_30 rfl rfl ?_
      obtain ⟨o31, e_o31, h⟩ := q_bind h
      obtain ⟨t31, e_t31, h⟩ := q_bind h
      refine aw_cV (v := (some (.int t31))) (As := []) (rest := []) (st' := [.int t31]) d_Trip_leastBroken_31 kV_Trip_105 (q_ob_spec e_o31).1 (q_ob_spec e_o31).2 ⟨Nat.le_of_ble_eq_true rfl, Nat.le_of_ble_eq_true rfl, Nat.le_of_ble_eq_true rfl, Nat.le_of_ble_eq_true rfl⟩ rfl rfl (Nat.le_of_ble_eq_true rfl) rfl (mt_Trip_isLinked e_t31) ?_
      refine aw_if_ne (tgt := 39) d_Trip_leastBroken_34 (by decide) (fun hc => ?_) (fun hc => ?_)
      · rw [if_neg hc] at h
        refine aw_aload_n d_Trip_leastBroken_39 rfl rfl ?_
        obtain ⟨o40, e_o40, h⟩ := q_bind h
        obtain ⟨t40, e_t40, h⟩ := q_bind h
        refine aw_cV (v := (some (.int t40))) (As := []) (rest := []) (st' := [.int t40]) d_Trip_leastBroken_40 kV_Trip_109 (q_ob_spec e_o40).1 (q_ob_spec e_o40).2 ⟨Nat.le_of_ble_eq_true rfl, Nat.le_of_ble_eq_true rfl, Nat.le_of_ble_eq_true rfl, Nat.le_of_ble_eq_true rfl⟩ rfl rfl (Nat.le_of_ble_eq_true rfl) rfl (mt_Trip_hasTooManyLegs e_t40) ?_
        refine aw_if_eq (tgt := 48) d_Trip_leastBroken_43 (by decide) (fun hc => ?_) (fun hc => ?_)
        · rw [if_pos hc] at h
          refine aw_aload_n d_Trip_leastBroken_48 rfl rfl ?_
          obtain ⟨o49, e_o49, h⟩ := q_bind h
          obtain ⟨t49, e_t49, h⟩ := q_bind h
          refine aw_cV (v := (some (.int t49))) (As := []) (rest := []) (st' := [.int t49]) d_Trip_leastBroken_49 kV_Trip_112 (q_ob_spec e_o49).1 (q_ob_spec e_o49).2 ⟨Nat.le_of_ble_eq_true rfl, Nat.le_of_ble_eq_true rfl, Nat.le_of_ble_eq_true rfl, Nat.le_of_ble_eq_true rfl⟩ rfl rfl (Nat.le_of_ble_eq_true rfl) rfl (mt_Trip_hasTooLongDuty e_t49) ?_
          refine aw_if_eq (tgt := 57) d_Trip_leastBroken_52 (by decide) (fun hc => ?_) (fun hc => ?_)
          · rw [if_pos hc] at h
            refine aw_aload_n d_Trip_leastBroken_57 rfl rfl ?_
            obtain ⟨o58, e_o58, h⟩ := q_bind h
            obtain ⟨t58, e_t58, h⟩ := q_bind h
            refine aw_cV (v := (some (.int t58))) (As := []) (rest := []) (st' := [.int t58]) d_Trip_leastBroken_58 kV_Trip_115 (q_ob_spec e_o58).1 (q_ob_spec e_o58).2 ⟨Nat.le_of_ble_eq_true rfl, Nat.le_of_ble_eq_true rfl, Nat.le_of_ble_eq_true rfl, Nat.le_of_ble_eq_true rfl⟩ rfl rfl (Nat.le_of_ble_eq_true rfl) rfl (mt_Trip_hasTooShortRest e_t58) ?_
            refine aw_if_eq (tgt := 66) d_Trip_leastBroken_61 (by decide) (fun hc => ?_) (fun hc => ?_)
            · rw [if_pos hc] at h
              refine aw_aload_n d_Trip_leastBroken_66 rfl rfl ?_
              obtain ⟨t67, e_t67, h⟩ := q_bind h
              refine aw_gtr d_Trip_leastBroken_67 fl_Trip_28 (Or.inl ⟨_, rfl⟩) e_t67 ?_
              obtain ⟨t70, e_t70, h⟩ := q_bind h
              refine aw_gtr d_Trip_leastBroken_70 fl_Trip_73 (Or.inr ⟨_, rfl⟩) e_t70 ?_
              refine aw_bipush (v := 9) d_Trip_leastBroken_73 (by decide) ?_
              obtain ⟨t75, e_t75, h⟩ := q_bind h
              refine aw_ldi d_Trip_leastBroken_75 e_t75 ?_
              refine aw_iconst (v := 1) d_Trip_leastBroken_76 (by decide) ?_
              refine aw_icmp_ne (tgt := 90) d_Trip_leastBroken_77 (by decide) (fun hc => ?_) (fun hc => ?_)
              · rw [if_neg hc] at h
                exact aw_pick [0, 1] rfl (ih_0 _ _ _ h)
              · rw [if_pos hc] at h
                refine aw_aload_n d_Trip_leastBroken_80 rfl rfl ?_
                obtain ⟨o81, e_o81, h⟩ := q_bind h
                obtain ⟨t81, e_t81, h⟩ := q_bind h
                refine aw_cV (v := (some (.int t81))) (As := []) (rest := []) (st' := [.int t81]) d_Trip_leastBroken_81 kV_Trip_118 (q_ob_spec e_o81).1 (q_ob_spec e_o81).2 ⟨Nat.le_of_ble_eq_true rfl, Nat.le_of_ble_eq_true rfl, Nat.le_of_ble_eq_true rfl, Nat.le_of_ble_eq_true rfl⟩ rfl rfl (Nat.le_of_ble_eq_true rfl) rfl (mt_Trip_lacksNightRest e_t81) ?_
                refine aw_if_eq (tgt := 90) d_Trip_leastBroken_84 (by decide) (fun hc => ?_) (fun hc => ?_)
                · rw [if_pos hc] at h
                  exact aw_pick [0, 1] rfl (ih_0 _ _ _ h)
                · rw [if_neg hc] at h
                  refine aw_bipush (v := 6) d_Trip_leastBroken_87 (by decide) ?_
                  cases h
                  exact aw_ireturn d_Trip_leastBroken_89 rfl (Nat.le_of_ble_eq_true rfl) (Nat.le_of_ble_eq_true rfl) ⟨rfl, rfl⟩
            · rw [if_neg hc] at h
              refine aw_iconst (v := 5) d_Trip_leastBroken_64 (by decide) ?_
              cases h
              exact aw_ireturn d_Trip_leastBroken_65 rfl (Nat.le_of_ble_eq_true rfl) (Nat.le_of_ble_eq_true rfl) ⟨rfl, rfl⟩
          · rw [if_neg hc] at h
            refine aw_iconst (v := 4) d_Trip_leastBroken_55 (by decide) ?_
            cases h
            exact aw_ireturn d_Trip_leastBroken_56 rfl (Nat.le_of_ble_eq_true rfl) (Nat.le_of_ble_eq_true rfl) ⟨rfl, rfl⟩
        · rw [if_neg hc] at h
          refine aw_iconst (v := 3) d_Trip_leastBroken_46 (by decide) ?_
          cases h
          exact aw_ireturn d_Trip_leastBroken_47 rfl (Nat.le_of_ble_eq_true rfl) (Nat.le_of_ble_eq_true rfl) ⟨rfl, rfl⟩
      · rw [if_pos hc] at h
        refine aw_iconst (v := 2) d_Trip_leastBroken_37 (by decide) ?_
        cases h
        exact aw_ireturn d_Trip_leastBroken_38 rfl (Nat.le_of_ble_eq_true rfl) (Nat.le_of_ble_eq_true rfl) ⟨rfl, rfl⟩
    · rw [if_pos hc] at h
      refine aw_iconst (v := 1) d_Trip_leastBroken_28 (by decide) ?_
      cases h
      exact aw_ireturn d_Trip_leastBroken_29 rfl (Nat.le_of_ble_eq_true rfl) (Nat.le_of_ble_eq_true rfl) ⟨rfl, rfl⟩
def y_Office_check : MethodName := ⟨"CrewOffice", "check", "(I)I"⟩
def u_Office_check : am_U := ("CrewOffice", "check", prog_1_method_12_code, 2, (some .int), [])
def R_Office_check : Room := { frames := 9, cells := 3, slots := 18, locals := 220 }
theorem d_Office_check_0 : decode u_Office_check.2.2.1 0 = .ok (.iload_n 1, 1) := by decide +kernel
theorem d_Office_check_1 : decode u_Office_check.2.2.1 1 = .ok (.iconst (-1), 1) := by decide +kernel
theorem d_Office_check_2 : decode u_Office_check.2.2.1 2 = .ok (.iconst 3, 1) := by decide +kernel
theorem d_Office_check_3 : decode u_Office_check.2.2.1 3 = .ok (.invokestatic 50, 3) := by decide +kernel
theorem d_Office_check_6 : decode u_Office_check.2.2.1 6 = .ok (.invokestatic 54, 3) := by decide +kernel
theorem d_Office_check_9 : decode u_Office_check.2.2.1 9 = .ok (.iload_n 1, 1) := by decide +kernel
theorem d_Office_check_10 : decode u_Office_check.2.2.1 10 = .ok (.iconst (-1), 1) := by decide +kernel
theorem d_Office_check_11 : decode u_Office_check.2.2.1 11 = .ok (.if_icmp .eq 18, 3) := by decide +kernel
theorem d_Office_check_14 : decode u_Office_check.2.2.1 14 = .ok (.aload_n 0, 1) := by decide +kernel
theorem d_Office_check_15 : decode u_Office_check.2.2.1 15 = .ok (.getfield 10, 3) := by decide +kernel
theorem d_Office_check_18 : decode u_Office_check.2.2.1 18 = .ok (.getfield 102, 3) := by decide +kernel
theorem d_Office_check_21 : decode u_Office_check.2.2.1 21 = .ok (.iload_n 1, 1) := by decide +kernel
theorem d_Office_check_22 : decode u_Office_check.2.2.1 22 = .ok (.aaload, 1) := by decide +kernel
theorem d_Office_check_23 : decode u_Office_check.2.2.1 23 = .ok (.getfield 111, 3) := by decide +kernel
theorem d_Office_check_26 : decode u_Office_check.2.2.1 26 = .ok (.ifCond .eq 7, 3) := by decide +kernel
theorem d_Office_check_29 : decode u_Office_check.2.2.1 29 = .ok (.iconst 1, 1) := by decide +kernel
theorem d_Office_check_30 : decode u_Office_check.2.2.1 30 = .ok (.goto 4, 3) := by decide +kernel
theorem d_Office_check_33 : decode u_Office_check.2.2.1 33 = .ok (.iconst 0, 1) := by decide +kernel
theorem d_Office_check_34 : decode u_Office_check.2.2.1 34 = .ok (.invokestatic 112, 3) := by decide +kernel
theorem d_Office_check_37 : decode u_Office_check.2.2.1 37 = .ok (.aload_n 0, 1) := by decide +kernel
theorem d_Office_check_38 : decode u_Office_check.2.2.1 38 = .ok (.getfield 21, 3) := by decide +kernel
theorem d_Office_check_41 : decode u_Office_check.2.2.1 41 = .ok (.invokevirtual 138, 3) := by decide +kernel
theorem d_Office_check_44 : decode u_Office_check.2.2.1 44 = .ok (.invokestatic 112, 3) := by decide +kernel
theorem d_Office_check_47 : decode u_Office_check.2.2.1 47 = .ok (.aload_n 0, 1) := by decide +kernel
theorem d_Office_check_48 : decode u_Office_check.2.2.1 48 = .ok (.getfield 21, 3) := by decide +kernel
theorem d_Office_check_51 : decode u_Office_check.2.2.1 51 = .ok (.invokevirtual 142, 3) := by decide +kernel
theorem d_Office_check_54 : decode u_Office_check.2.2.1 54 = .ok (.aload_n 0, 1) := by decide +kernel
theorem d_Office_check_55 : decode u_Office_check.2.2.1 55 = .ok (.getfield 21, 3) := by decide +kernel
theorem d_Office_check_58 : decode u_Office_check.2.2.1 58 = .ok (.iload_n 1, 1) := by decide +kernel
theorem d_Office_check_59 : decode u_Office_check.2.2.1 59 = .ok (.invokevirtual 145, 3) := by decide +kernel
theorem d_Office_check_62 : decode u_Office_check.2.2.1 62 = .ok (.ireturn, 1) := by decide +kernel
theorem w_Office_check : am_code y_Office_check u_Office_check ∈ am_ws := am_mem (List.mem_of_getElem? (i := 832) (by decide +kernel)) rfl
def a_Office_check_0 (rc : Nat → Nat → Int32 → Int32 → am_M → Option ((Int32 ⊕ Nat) × am_M)) (r0 : Nat) (x1 : Int32) (s0 : Int32) (M : am_M) : Option ((Int32 ⊕ Nat) × am_M) := rc 1 r0 x1 (1 : Int32) M
def a_Office_check_1 (rc : Nat → Nat → Int32 → Int32 → am_M → Option ((Int32 ⊕ Nat) × am_M)) (r0 : Nat) (x1 : Int32) (s0 : Int32) (M : am_M) : Option ((Int32 ⊕ Nat) × am_M) := (f_Office_needElement M s0).bind (fun p34 => q_try p34 (fun _ M34 => (q_gtr M34 r0 9 1).bind (fun t38 => (q_ob M34 t38 5).bind (fun o41 => (f_Trip_canBeMeasured M34 t38).bind (fun t41 => (f_Office_needElement M34 t41).bind (fun p44 => q_try p44 (fun _ M44 => (q_gtr M44 r0 9 1).bind (fun t48 => (q_ob M44 t48 5).bind (fun o51 => (f_Trip_measure M44 t48).bind (fun p51 => (q_gtr p51.2 r0 9 1).bind (fun t55 => (q_ob p51.2 t55 5).bind (fun o59 => (f_Trip_leastBroken p51.2 t55 x1).bind (fun t59 => some (.inl t59, p51.2))))))))))))))
def g_Office_check : Nat → Nat → Nat → Int32 → Int32 → am_M → Option ((Int32 ⊕ Nat) × am_M)
  | 0, _, _, _, _, _ => none
  | F + 1, 0, r0, x1, s0, M => a_Office_check_0 (g_Office_check F) r0 x1 s0 M
  | F + 1, 1, r0, x1, s0, M => a_Office_check_1 (g_Office_check F) r0 x1 s0 M
  | _ + 1, _ + 2, _, _, _, _ => none
def e_Office_check (rc : Nat → Nat → Int32 → Int32 → am_M → Option ((Int32 ⊕ Nat) × am_M)) (M : am_M) (a0 : Nat) (a1 : Int32) : Option ((Int32 ⊕ Nat) × am_M) := (f_Office_isWithin M a1 (-1 : Int32) (3 : Int32)).bind (fun t3 => (f_Office_needArgument M t3).bind (fun p6 => q_try p6 (fun _ M6 => if a1 = (-1 : Int32) then (rc 0 a0 a1 0 M6) else ((q_gtr M6 a0 9 0).bind (fun t15 => (q_gtr M6 t15 3 2).bind (fun t18 => (q_ldr M6 t18 a1).bind (fun t22 => (q_gti M6 t22 2 0).bind (fun t23 => if t23 = 0 then (rc 1 a0 a1 (0 : Int32) M6) else (rc 0 a0 a1 0 M6)))))))))
def f_Office_check (M : am_M) (a0 : Nat) (a1 : Int32) : Option ((Int32 ⊕ Nat) × am_M) := e_Office_check (g_Office_check 1000000000) M a0 a1
theorem kV_Office_145 : am_kV "CrewOffice" 145 5 y_Trip_leastBroken u_Trip_leastBroken 1 := ⟨List.mem_of_getElem? (i := 838) (by decide +kernel), ⟨List.mem_of_getElem? (i := 503) (by decide +kernel), List.mem_of_getElem? (i := 504) (by decide +kernel)⟩, List.mem_of_getElem? (i := 60) (by decide +kernel), w_Trip_leastBroken, ⟨⟨by decide +kernel, by decide +kernel⟩, by decide +kernel⟩⟩
set_option maxHeartbeats 4000000 in
theorem s_Office_check_0 {rc : Nat → Nat → Int32 → Int32 → am_M → Option ((Int32 ⊕ Nat) × am_M)} {res : Int32 ⊕ Nat} {M' : am_M} (ih_0 : ∀ (r0 : Nat) (x1 : Int32) (s0 : Int32) (M : am_M), rc 0 r0 x1 s0 M = some (res, M') → AW u_Office_check R_Office_check 1 6 29 [(0, .ref r0), (1, .int x1)] [] M (fun r M2 => r = am_rI res ∧ M2 = M')) (ih_1 : ∀ (r0 : Nat) (x1 : Int32) (s0 : Int32) (M : am_M), rc 1 r0 x1 s0 M = some (res, M') → AW u_Office_check R_Office_check 1 6 34 [(0, .ref r0), (1, .int x1)] [.int s0] M (fun r M2 => r = am_rI res ∧ M2 = M')) : ∀ (r0 : Nat) (x1 : Int32) (s0 : Int32) (M : am_M), a_Office_check_0 rc r0 x1 s0 M = some (res, M') → AW u_Office_check R_Office_check 1 6 29 [(0, .ref r0), (1, .int x1)] [] M (fun r M2 => r = am_rI res ∧ M2 = M') := by
  intro r0 x1 s0 M h
  unfold a_Office_check_0 at h
  refine aw_iconst (v := 1) d_Office_check_29 (by decide) ?_
  refine aw_goto (tgt := 34) d_Office_check_30 (by decide) ?_
  exact aw_pick [0, 1] rfl (ih_1 _ _ _ _ h)
set_option maxHeartbeats 4000000 in
theorem s_Office_check_1 {rc : Nat → Nat → Int32 → Int32 → am_M → Option ((Int32 ⊕ Nat) × am_M)} {res : Int32 ⊕ Nat} {M' : am_M} (ih_0 : ∀ (r0 : Nat) (x1 : Int32) (s0 : Int32) (M : am_M), rc 0 r0 x1 s0 M = some (res, M') → AW u_Office_check R_Office_check 1 6 29 [(0, .ref r0), (1, .int x1)] [] M (fun r M2 => r = am_rI res ∧ M2 = M')) (ih_1 : ∀ (r0 : Nat) (x1 : Int32) (s0 : Int32) (M : am_M), rc 1 r0 x1 s0 M = some (res, M') → AW u_Office_check R_Office_check 1 6 34 [(0, .ref r0), (1, .int x1)] [.int s0] M (fun r M2 => r = am_rI res ∧ M2 = M')) : ∀ (r0 : Nat) (x1 : Int32) (s0 : Int32) (M : am_M), a_Office_check_1 rc r0 x1 s0 M = some (res, M') → AW u_Office_check R_Office_check 1 6 34 [(0, .ref r0), (1, .int x1)] [.int s0] M (fun r M2 => r = am_rI res ∧ M2 = M') := by
  intro r0 x1 s0 M h
  unfold a_Office_check_1 at h
  obtain ⟨⟨t34, M34⟩, e_t34, h⟩ := q_bind h
  cases t34 with
  | inr kx =>
    cases h
    exact aw_cSx (As := [.int s0]) (rest := []) d_Office_check_34 kS_Office_112 ⟨Nat.le_of_ble_eq_true rfl, Nat.le_of_ble_eq_true rfl, Nat.le_of_ble_eq_true rfl, Nat.le_of_ble_eq_true rfl⟩ rfl rfl (Nat.le_of_ble_eq_true rfl) (mt_Office_needElement e_t34) rfl ⟨rfl, rfl⟩
  | inl vx =>
    dsimp only [q_try] at h
    refine aw_cS (v := none) (As := [.int s0]) (rest := []) (st' := []) d_Office_check_34 kS_Office_112 ⟨Nat.le_of_ble_eq_true rfl, Nat.le_of_ble_eq_true rfl, Nat.le_of_ble_eq_true rfl, Nat.le_of_ble_eq_true rfl⟩ rfl rfl (Nat.le_of_ble_eq_true rfl) rfl (mt_Office_needElement e_t34) ?_
    refine aw_aload_n d_Office_check_37 rfl rfl ?_
    obtain ⟨t38, e_t38, h⟩ := q_bind h
    refine aw_gtr d_Office_check_38 fl_Office_21 (Or.inl ⟨_, rfl⟩) e_t38 ?_
    obtain ⟨o41, e_o41, h⟩ := q_bind h
    obtain ⟨t41, e_t41, h⟩ := q_bind h
    refine aw_cV (v := (some (.int t41))) (As := []) (rest := []) (st' := [.int t41]) d_Office_check_41 kV_Office_138 (q_ob_spec e_o41).1 (q_ob_spec e_o41).2 ⟨Nat.le_of_ble_eq_true rfl, Nat.le_of_ble_eq_true rfl, Nat.le_of_ble_eq_true rfl, Nat.le_of_ble_eq_true rfl⟩ rfl rfl (Nat.le_of_ble_eq_true rfl) rfl (mt_Trip_canBeMeasured e_t41) ?_
    obtain ⟨⟨t44, M44⟩, e_t44, h⟩ := q_bind h
    cases t44 with
    | inr kx =>
      cases h
      exact aw_cSx (As := [.int t41]) (rest := []) d_Office_check_44 kS_Office_112 ⟨Nat.le_of_ble_eq_true rfl, Nat.le_of_ble_eq_true rfl, Nat.le_of_ble_eq_true rfl, Nat.le_of_ble_eq_true rfl⟩ rfl rfl (Nat.le_of_ble_eq_true rfl) (mt_Office_needElement e_t44) rfl ⟨rfl, rfl⟩
    | inl vx =>
      dsimp only [q_try] at h
      refine aw_cS (v := none) (As := [.int t41]) (rest := []) (st' := []) d_Office_check_44 kS_Office_112 ⟨Nat.le_of_ble_eq_true rfl, Nat.le_of_ble_eq_true rfl, Nat.le_of_ble_eq_true rfl, Nat.le_of_ble_eq_true rfl⟩ rfl rfl (Nat.le_of_ble_eq_true rfl) rfl (mt_Office_needElement e_t44) ?_
      refine aw_aload_n d_Office_check_47 rfl rfl ?_
      obtain ⟨t48, e_t48, h⟩ := q_bind h
      refine aw_gtr d_Office_check_48 fl_Office_21 (Or.inl ⟨_, rfl⟩) e_t48 ?_
      obtain ⟨o51, e_o51, h⟩ := q_bind h
      obtain ⟨⟨t51, M51⟩, e_t51, h⟩ := q_bind h
      dsimp only at h
      refine aw_cV (v := none) (As := []) (rest := []) (st' := []) d_Office_check_51 kV_Office_142 (q_ob_spec e_o51).1 (q_ob_spec e_o51).2 ⟨Nat.le_of_ble_eq_true rfl, Nat.le_of_ble_eq_true rfl, Nat.le_of_ble_eq_true rfl, Nat.le_of_ble_eq_true rfl⟩ rfl rfl (Nat.le_of_ble_eq_true rfl) rfl (mt_Trip_measure e_t51) ?_
      refine aw_aload_n d_Office_check_54 rfl rfl ?_
      obtain ⟨t55, e_t55, h⟩ := q_bind h
      refine aw_gtr d_Office_check_55 fl_Office_21 (Or.inl ⟨_, rfl⟩) e_t55 ?_
      refine aw_iload_n d_Office_check_58 rfl rfl ?_
      obtain ⟨o59, e_o59, h⟩ := q_bind h
      obtain ⟨t59, e_t59, h⟩ := q_bind h
      refine aw_cV (v := (some (.int t59))) (As := [.int x1]) (rest := []) (st' := [.int t59]) d_Office_check_59 kV_Office_145 (q_ob_spec e_o59).1 (q_ob_spec e_o59).2 ⟨Nat.le_of_ble_eq_true rfl, Nat.le_of_ble_eq_true rfl, Nat.le_of_ble_eq_true rfl, Nat.le_of_ble_eq_true rfl⟩ rfl rfl (Nat.le_of_ble_eq_true rfl) rfl (mt_Trip_leastBroken e_t59) ?_
      cases h
      exact aw_ireturn d_Office_check_62 rfl (Nat.le_of_ble_eq_true rfl) (Nat.le_of_ble_eq_true rfl) ⟨rfl, rfl⟩
theorem l_Office_check {res : Int32 ⊕ Nat} {M' : am_M} : ∀ F : Nat, (∀ (r0 : Nat) (x1 : Int32) (s0 : Int32) (M : am_M), g_Office_check F 0 r0 x1 s0 M = some (res, M') → AW u_Office_check R_Office_check 1 6 29 [(0, .ref r0), (1, .int x1)] [] M (fun r M2 => r = am_rI res ∧ M2 = M')) ∧ (∀ (r0 : Nat) (x1 : Int32) (s0 : Int32) (M : am_M), g_Office_check F 1 r0 x1 s0 M = some (res, M') → AW u_Office_check R_Office_check 1 6 34 [(0, .ref r0), (1, .int x1)] [.int s0] M (fun r M2 => r = am_rI res ∧ M2 = M')) := by
  intro F
  induction F with
  | zero => exact ⟨fun _ _ _ _  h => (by cases h), fun _ _ _ _  h => (by cases h)⟩
  | succ F ih =>
    obtain ⟨ih0, ih1⟩ := ih
    exact ⟨s_Office_check_0 ih0 ih1, s_Office_check_1 ih0 ih1⟩
set_option maxHeartbeats 4000000 in
theorem mt_Office_check {M : am_M} {a0 : Nat} {a1 : Int32} {res : Int32 ⊕ Nat} {M' : am_M} (h : f_Office_check M a0 a1 = some (res, M')) : AMet y_Office_check u_Office_check R_Office_check [.ref a0, .int a1] M (fun r M2 => r = am_rI res ∧ M2 = M') := by
  refine am_met (by decide +kernel) w_Office_check rfl rfl (Nat.le_of_ble_eq_true rfl) ?_
  show AW u_Office_check R_Office_check 0 0 0 [(0, .ref a0), (1, .int a1)] [] M (fun r M2 => r = am_rI res ∧ M2 = M')
  have ih_0 := (l_Office_check (res := res) (M' := M') 1000000000).1
  have ih_1 := (l_Office_check (res := res) (M' := M') 1000000000).2
  unfold f_Office_check at h
  unfold e_Office_check at h
  generalize g_Office_check 1000000000 = rc at h ih_0 ih_1
  refine aw_iload_n d_Office_check_0 rfl rfl ?_
  refine aw_iconst (v := -1) d_Office_check_1 (by decide) ?_
  refine aw_iconst (v := 3) d_Office_check_2 (by decide) ?_
  obtain ⟨t3, e_t3, h⟩ := q_bind h
  refine aw_cS (v := (some (.int t3))) (As := [.int a1, .int (-1 : Int32), .int (3 : Int32)]) (rest := []) (st' := [.int t3]) d_Office_check_3 kS_Office_50 ⟨Nat.le_of_ble_eq_true rfl, Nat.le_of_ble_eq_true rfl, Nat.le_of_ble_eq_true rfl, Nat.le_of_ble_eq_true rfl⟩ rfl rfl (Nat.le_of_ble_eq_true rfl) rfl (mt_Office_isWithin e_t3) ?_
  obtain ⟨⟨t6, M6⟩, e_t6, h⟩ := q_bind h
  cases t6 with
  | inr kx =>
    cases h
    exact aw_cSx (As := [.int t3]) (rest := []) d_Office_check_6 kS_Office_54 ⟨Nat.le_of_ble_eq_true rfl, Nat.le_of_ble_eq_true rfl, Nat.le_of_ble_eq_true rfl, Nat.le_of_ble_eq_true rfl⟩ rfl rfl (Nat.le_of_ble_eq_true rfl) (mt_Office_needArgument e_t6) rfl ⟨rfl, rfl⟩
  | inl vx =>
    dsimp only [q_try] at h
    refine aw_cS (v := none) (As := [.int t3]) (rest := []) (st' := []) d_Office_check_6 kS_Office_54 ⟨Nat.le_of_ble_eq_true rfl, Nat.le_of_ble_eq_true rfl, Nat.le_of_ble_eq_true rfl, Nat.le_of_ble_eq_true rfl⟩ rfl rfl (Nat.le_of_ble_eq_true rfl) rfl (mt_Office_needArgument e_t6) ?_
    refine aw_iload_n d_Office_check_9 rfl rfl ?_
    refine aw_iconst (v := -1) d_Office_check_10 (by decide) ?_
    refine aw_icmp_eq (tgt := 29) d_Office_check_11 (by decide) (fun hc => ?_) (fun hc => ?_)
    · rw [if_pos hc] at h
      exact aw_pick [0, 1] rfl (ih_0 _ _ _ _ h)
    · rw [if_neg hc] at h
      refine aw_aload_n d_Office_check_14 rfl rfl ?_
      obtain ⟨t15, e_t15, h⟩ := q_bind h
      refine aw_gtr d_Office_check_15 fl_Office_10 (Or.inl ⟨_, rfl⟩) e_t15 ?_
      obtain ⟨t18, e_t18, h⟩ := q_bind h
      refine aw_gtr d_Office_check_18 fl_Office_102 (Or.inr ⟨_, rfl⟩) e_t18 ?_
      refine aw_iload_n d_Office_check_21 rfl rfl ?_
      obtain ⟨t22, e_t22, h⟩ := q_bind h
      refine aw_ldr d_Office_check_22 e_t22 ?_
      obtain ⟨t23, e_t23, h⟩ := q_bind h
      refine aw_gti d_Office_check_23 fl_Office_111 (Or.inr rfl) e_t23 ?_
      refine aw_if_eq (tgt := 33) d_Office_check_26 (by decide) (fun hc => ?_) (fun hc => ?_)
      · rw [if_pos hc] at h
        refine aw_iconst (v := 0) d_Office_check_33 (by decide) ?_
        exact aw_pick [0, 1] rfl (ih_1 _ _ _ _ h)
      · rw [if_neg hc] at h
        exact aw_pick [0, 1] rfl (ih_0 _ _ _ _ h)
def y_Listing_goOn : MethodName := ⟨"CrewOffice$Listing", "goOn", "(I)V"⟩
def u_Listing_goOn : am_U := ("CrewOffice$Listing", "goOn", prog_5_method_4_code, 4, none, [])
def R_Listing_goOn (d : Nat) : Room := { frames := 5 + d, cells := 0, slots := 0, locals := 115 + 40 * d }
theorem d_Listing_goOn_0 : decode u_Listing_goOn.2.2.1 0 = .ok (.iload_n 1, 1) := by decide +kernel
theorem d_Listing_goOn_1 : decode u_Listing_goOn.2.2.1 1 = .ok (.bipush 8, 2) := by decide +kernel
theorem d_Listing_goOn_3 : decode u_Listing_goOn.2.2.1 3 = .ok (.if_icmp .lt 4, 3) := by decide +kernel
theorem d_Listing_goOn_6 : decode u_Listing_goOn.2.2.1 6 = .ok (.return_, 1) := by decide +kernel
theorem d_Listing_goOn_7 : decode u_Listing_goOn.2.2.1 7 = .ok (.iconst 0, 1) := by decide +kernel
theorem d_Listing_goOn_8 : decode u_Listing_goOn.2.2.1 8 = .ok (.istore_n 2, 1) := by decide +kernel
theorem d_Listing_goOn_9 : decode u_Listing_goOn.2.2.1 9 = .ok (.iload_n 2, 1) := by decide +kernel
theorem d_Listing_goOn_10 : decode u_Listing_goOn.2.2.1 10 = .ok (.bipush 12, 2) := by decide +kernel
theorem d_Listing_goOn_12 : decode u_Listing_goOn.2.2.1 12 = .ok (.if_icmp .ge 72, 3) := by decide +kernel
theorem d_Listing_goOn_15 : decode u_Listing_goOn.2.2.1 15 = .ok (.aload_n 0, 1) := by decide +kernel
theorem d_Listing_goOn_16 : decode u_Listing_goOn.2.2.1 16 = .ok (.getfield 35, 3) := by decide +kernel
theorem d_Listing_goOn_19 : decode u_Listing_goOn.2.2.1 19 = .ok (.ifCond .ne 65, 3) := by decide +kernel
theorem d_Listing_goOn_22 : decode u_Listing_goOn.2.2.1 22 = .ok (.aload_n 0, 1) := by decide +kernel
theorem d_Listing_goOn_23 : decode u_Listing_goOn.2.2.1 23 = .ok (.iload_n 1, 1) := by decide +kernel
theorem d_Listing_goOn_24 : decode u_Listing_goOn.2.2.1 24 = .ok (.iload_n 2, 1) := by decide +kernel
theorem d_Listing_goOn_25 : decode u_Listing_goOn.2.2.1 25 = .ok (.invokevirtual 43, 3) := by decide +kernel
theorem d_Listing_goOn_28 : decode u_Listing_goOn.2.2.1 28 = .ok (.ifCond .eq 50, 3) := by decide +kernel
theorem d_Listing_goOn_31 : decode u_Listing_goOn.2.2.1 31 = .ok (.aload_n 0, 1) := by decide +kernel
theorem d_Listing_goOn_32 : decode u_Listing_goOn.2.2.1 32 = .ok (.getfield 30, 3) := by decide +kernel
theorem d_Listing_goOn_35 : decode u_Listing_goOn.2.2.1 35 = .ok (.iload_n 1, 1) := by decide +kernel
theorem d_Listing_goOn_36 : decode u_Listing_goOn.2.2.1 36 = .ok (.iload_n 2, 1) := by decide +kernel
theorem d_Listing_goOn_37 : decode u_Listing_goOn.2.2.1 37 = .ok (.invokevirtual 47, 3) := by decide +kernel
theorem d_Listing_goOn_40 : decode u_Listing_goOn.2.2.1 40 = .ok (.aload_n 0, 1) := by decide +kernel
theorem d_Listing_goOn_41 : decode u_Listing_goOn.2.2.1 41 = .ok (.getfield 30, 3) := by decide +kernel
theorem d_Listing_goOn_44 : decode u_Listing_goOn.2.2.1 44 = .ok (.invokevirtual 51, 3) := by decide +kernel
theorem d_Listing_goOn_47 : decode u_Listing_goOn.2.2.1 47 = .ok (.aload_n 0, 1) := by decide +kernel
theorem d_Listing_goOn_48 : decode u_Listing_goOn.2.2.1 48 = .ok (.getfield 30, 3) := by decide +kernel
theorem d_Listing_goOn_51 : decode u_Listing_goOn.2.2.1 51 = .ok (.iconst (-1), 1) := by decide +kernel
theorem d_Listing_goOn_52 : decode u_Listing_goOn.2.2.1 52 = .ok (.invokevirtual 54, 3) := by decide +kernel
theorem d_Listing_goOn_55 : decode u_Listing_goOn.2.2.1 55 = .ok (.istore_n 3, 1) := by decide +kernel
theorem d_Listing_goOn_56 : decode u_Listing_goOn.2.2.1 56 = .ok (.iload_n 3, 1) := by decide +kernel
theorem d_Listing_goOn_57 : decode u_Listing_goOn.2.2.1 57 = .ok (.ifCond .ne 7, 3) := by decide +kernel
theorem d_Listing_goOn_60 : decode u_Listing_goOn.2.2.1 60 = .ok (.aload_n 0, 1) := by decide +kernel
theorem d_Listing_goOn_61 : decode u_Listing_goOn.2.2.1 61 = .ok (.invokevirtual 58, 3) := by decide +kernel
theorem d_Listing_goOn_64 : decode u_Listing_goOn.2.2.1 64 = .ok (.iload_n 3, 1) := by decide +kernel
theorem d_Listing_goOn_65 : decode u_Listing_goOn.2.2.1 65 = .ok (.invokestatic 61, 3) := by decide +kernel
theorem d_Listing_goOn_68 : decode u_Listing_goOn.2.2.1 68 = .ok (.ifCond .eq 10, 3) := by decide +kernel
theorem d_Listing_goOn_71 : decode u_Listing_goOn.2.2.1 71 = .ok (.aload_n 0, 1) := by decide +kernel
theorem d_Listing_goOn_72 : decode u_Listing_goOn.2.2.1 72 = .ok (.iload_n 1, 1) := by decide +kernel
theorem d_Listing_goOn_73 : decode u_Listing_goOn.2.2.1 73 = .ok (.iconst 1, 1) := by decide +kernel
theorem d_Listing_goOn_74 : decode u_Listing_goOn.2.2.1 74 = .ok (.iadd, 1) := by decide +kernel
theorem d_Listing_goOn_75 : decode u_Listing_goOn.2.2.1 75 = .ok (.invokevirtual 39, 3) := by decide +kernel
theorem d_Listing_goOn_78 : decode u_Listing_goOn.2.2.1 78 = .ok (.iinc 2 1, 3) := by decide +kernel
theorem d_Listing_goOn_81 : decode u_Listing_goOn.2.2.1 81 = .ok (.goto (-72), 3) := by decide +kernel
theorem d_Listing_goOn_84 : decode u_Listing_goOn.2.2.1 84 = .ok (.return_, 1) := by decide +kernel
theorem w_Listing_goOn : am_code y_Listing_goOn u_Listing_goOn ∈ am_ws := am_mem (List.mem_of_getElem? (i := 477) (by decide +kernel)) rfl
def a_Listing_goOn_0 (rec : am_M → Nat → Int32 → Option (Unit × am_M)) (rc : Nat → Nat → Int32 → Int32 → Int32 → am_M → Option (Unit × am_M)) (r0 : Nat) (x1 : Int32) (x2 : Int32) (x3 : Int32) (M : am_M) : Option (Unit × am_M) := if (12 : Int32) ≤ x2 then (some ((), M)) else ((q_gti M r0 6 4).bind (fun t16 => if t16 = 0 then ((q_ob M r0 6).bind (fun o25 => (f_Listing_canBeNext M r0 x1 x2).bind (fun t25 => if t25 = 0 then (rc 2 r0 x1 x2 0 M) else ((q_gtr M r0 6 1).bind (fun t32 => (q_ob M t32 5).bind (fun o37 => (f_Trip_put M t32 x1 x2).bind (fun p37 => (q_gtr p37.2 r0 6 1).bind (fun t41 => (q_ob p37.2 t41 5).bind (fun o44 => (f_Trip_measure p37.2 t41).bind (fun p44 => (q_gtr p44.2 r0 6 1).bind (fun t48 => (q_ob p44.2 t48 5).bind (fun o52 => (f_Trip_leastBroken p44.2 t48 (-1 : Int32)).bind (fun t52 => if t52 = 0 then ((q_ob p44.2 r0 6).bind (fun o61 => (f_Listing_addDraft p44.2 r0).bind (fun p61 => rc 1 r0 x1 x2 t52 p61.2))) else (rc 1 r0 x1 x2 t52 p44.2)))))))))))))) else (some ((), M))))
def a_Listing_goOn_1 (rec : am_M → Nat → Int32 → Option (Unit × am_M)) (rc : Nat → Nat → Int32 → Int32 → Int32 → am_M → Option (Unit × am_M)) (r0 : Nat) (x1 : Int32) (x2 : Int32) (x3 : Int32) (M : am_M) : Option (Unit × am_M) := (f_Listing_canBeMended M x3).bind (fun t65 => if t65 = 0 then (rc 2 r0 x1 x2 0 M) else ((q_ob M r0 6).bind (fun o75 => (rec M r0 (x1 + (1 : Int32))).bind (fun p75 => rc 2 r0 x1 x2 0 p75.2))))
def a_Listing_goOn_2 (rec : am_M → Nat → Int32 → Option (Unit × am_M)) (rc : Nat → Nat → Int32 → Int32 → Int32 → am_M → Option (Unit × am_M)) (r0 : Nat) (x1 : Int32) (x2 : Int32) (x3 : Int32) (M : am_M) : Option (Unit × am_M) := rc 0 r0 x1 (x2 + (1 : Int32)) 0 M
def g_Listing_goOn (rec : am_M → Nat → Int32 → Option (Unit × am_M)) : Nat → Nat → Nat → Int32 → Int32 → Int32 → am_M → Option (Unit × am_M)
  | 0, _, _, _, _, _, _ => none
  | F + 1, 0, r0, x1, x2, x3, M => a_Listing_goOn_0 rec (g_Listing_goOn rec F) r0 x1 x2 x3 M
  | F + 1, 1, r0, x1, x2, x3, M => a_Listing_goOn_1 rec (g_Listing_goOn rec F) r0 x1 x2 x3 M
  | F + 1, 2, r0, x1, x2, x3, M => a_Listing_goOn_2 rec (g_Listing_goOn rec F) r0 x1 x2 x3 M
  | _ + 1, _ + 3, _, _, _, _, _ => none
def e_Listing_goOn (rec : am_M → Nat → Int32 → Option (Unit × am_M)) (rc : Nat → Nat → Int32 → Int32 → Int32 → am_M → Option (Unit × am_M)) (M : am_M) (a0 : Nat) (a1 : Int32) : Option (Unit × am_M) := if a1 < (8 : Int32) then (rc 0 a0 a1 (0 : Int32) 0 M) else (some ((), M))
def f_Listing_goOn : Nat → am_M → Nat → Int32 → Option (Unit × am_M)
  | 0, _, _, _ => none
  | d + 1, M, a0, a1 => e_Listing_goOn (f_Listing_goOn d) (g_Listing_goOn (f_Listing_goOn d) 1000000000) M a0 a1
theorem kV_Listing_39 : am_kV "CrewOffice$Listing" 39 6 y_Listing_goOn u_Listing_goOn 1 := ⟨List.mem_of_getElem? (i := 474) (by decide +kernel), ⟨List.mem_of_getElem? (i := 476) (by decide +kernel), List.mem_of_getElem? (i := 1) (by decide +kernel)⟩, List.mem_of_getElem? (i := 62) (by decide +kernel), w_Listing_goOn, ⟨⟨by decide +kernel, by decide +kernel⟩, by decide +kernel⟩⟩
theorem kV_Listing_43 : am_kV "CrewOffice$Listing" 43 6 y_Listing_canBeNext u_Listing_canBeNext 2 := ⟨List.mem_of_getElem? (i := 478) (by decide +kernel), ⟨List.mem_of_getElem? (i := 480) (by decide +kernel), List.mem_of_getElem? (i := 2) (by decide +kernel)⟩, List.mem_of_getElem? (i := 62) (by decide +kernel), w_Listing_canBeNext, ⟨⟨by decide +kernel, by decide +kernel⟩, by decide +kernel⟩⟩
theorem kV_Listing_47 : am_kV "CrewOffice$Listing" 47 5 y_Trip_put u_Trip_put 2 := ⟨List.mem_of_getElem? (i := 490) (by decide +kernel), ⟨List.mem_of_getElem? (i := 491) (by decide +kernel), List.mem_of_getElem? (i := 492) (by decide +kernel)⟩, List.mem_of_getElem? (i := 60) (by decide +kernel), w_Trip_put, ⟨⟨by decide +kernel, by decide +kernel⟩, by decide +kernel⟩⟩
theorem kV_Listing_51 : am_kV "CrewOffice$Listing" 51 5 y_Trip_measure u_Trip_measure 0 := ⟨List.mem_of_getElem? (i := 494) (by decide +kernel), ⟨List.mem_of_getElem? (i := 495) (by decide +kernel), List.mem_of_getElem? (i := 496) (by decide +kernel)⟩, List.mem_of_getElem? (i := 60) (by decide +kernel), w_Trip_measure, ⟨⟨by decide +kernel, by decide +kernel⟩, by decide +kernel⟩⟩
theorem kV_Listing_54 : am_kV "CrewOffice$Listing" 54 5 y_Trip_leastBroken u_Trip_leastBroken 1 := ⟨List.mem_of_getElem? (i := 502) (by decide +kernel), ⟨List.mem_of_getElem? (i := 503) (by decide +kernel), List.mem_of_getElem? (i := 504) (by decide +kernel)⟩, List.mem_of_getElem? (i := 60) (by decide +kernel), w_Trip_leastBroken, ⟨⟨by decide +kernel, by decide +kernel⟩, by decide +kernel⟩⟩
theorem kV_Listing_58 : am_kV "CrewOffice$Listing" 58 6 y_Listing_addDraft u_Listing_addDraft 0 := ⟨List.mem_of_getElem? (i := 578) (by decide +kernel), ⟨List.mem_of_getElem? (i := 580) (by decide +kernel), List.mem_of_getElem? (i := 13) (by decide +kernel)⟩, List.mem_of_getElem? (i := 62) (by decide +kernel), w_Listing_addDraft, ⟨⟨by decide +kernel, by decide +kernel⟩, by decide +kernel⟩⟩
theorem kS_Listing_61 : am_kS "CrewOffice$Listing" 61 y_Listing_canBeMended u_Listing_canBeMended 1 := ⟨List.mem_of_getElem? (i := 589) (by decide +kernel), List.mem_of_getElem? (i := 590) (by decide +kernel), List.mem_of_getElem? (i := 62) (by decide +kernel), w_Listing_canBeMended, ⟨⟨by decide +kernel, by decide +kernel⟩, by decide +kernel⟩⟩
set_option maxHeartbeats 4000000 in
theorem s_Listing_goOn_0 {d : Nat} {rec : am_M → Nat → Int32 → Option (Unit × am_M)} (hrec : ∀ {M : am_M} {a0 : Nat} {a1 : Int32} {res : Unit} {M' : am_M}, rec M a0 a1 = some (res, M') → AMet y_Listing_goOn u_Listing_goOn (R_Listing_goOn d) [.ref a0, .int a1] M (fun r M2 => r = .inl none ∧ M2 = M')) {rc : Nat → Nat → Int32 → Int32 → Int32 → am_M → Option (Unit × am_M)} {res : Unit} {M' : am_M} (ih_0 : ∀ (r0 : Nat) (x1 : Int32) (x2 : Int32) (x3 : Int32) (M : am_M), rc 0 r0 x1 x2 x3 M = some (res, M') → AW u_Listing_goOn (R_Listing_goOn (d + 1)) 0 0 9 [(0, .ref r0), (1, .int x1), (2, .int x2)] [] M (fun r M2 => r = .inl none ∧ M2 = M')) (ih_1 : ∀ (r0 : Nat) (x1 : Int32) (x2 : Int32) (x3 : Int32) (M : am_M), rc 1 r0 x1 x2 x3 M = some (res, M') → AW u_Listing_goOn (R_Listing_goOn (d + 1)) 0 0 64 [(0, .ref r0), (1, .int x1), (2, .int x2), (3, .int x3)] [] M (fun r M2 => r = .inl none ∧ M2 = M')) (ih_2 : ∀ (r0 : Nat) (x1 : Int32) (x2 : Int32) (x3 : Int32) (M : am_M), rc 2 r0 x1 x2 x3 M = some (res, M') → AW u_Listing_goOn (R_Listing_goOn (d + 1)) 0 0 78 [(0, .ref r0), (1, .int x1), (2, .int x2)] [] M (fun r M2 => r = .inl none ∧ M2 = M')) : ∀ (r0 : Nat) (x1 : Int32) (x2 : Int32) (x3 : Int32) (M : am_M), a_Listing_goOn_0 rec rc r0 x1 x2 x3 M = some (res, M') → AW u_Listing_goOn (R_Listing_goOn (d + 1)) 0 0 9 [(0, .ref r0), (1, .int x1), (2, .int x2)] [] M (fun r M2 => r = .inl none ∧ M2 = M') := by
  intro r0 x1 x2 x3 M h
  unfold a_Listing_goOn_0 at h
  refine aw_iload_n d_Listing_goOn_9 rfl rfl ?_
  refine aw_bipush (v := 12) d_Listing_goOn_10 (by decide) ?_
  refine aw_icmp_ge (tgt := 84) d_Listing_goOn_12 (by decide) (fun hc => ?_) (fun hc => ?_)
  · rw [if_pos hc] at h
    cases h
    exact aw_vreturn d_Listing_goOn_84 rfl (Nat.le_of_ble_eq_true rfl) (Nat.le_of_ble_eq_true rfl) ⟨rfl, rfl⟩
  · rw [if_neg hc] at h
    refine aw_aload_n d_Listing_goOn_15 rfl rfl ?_
    obtain ⟨t16, e_t16, h⟩ := q_bind h
    refine aw_gti d_Listing_goOn_16 fl_Listing_35 (Or.inr rfl) e_t16 ?_
    refine aw_if_ne (tgt := 84) d_Listing_goOn_19 (by decide) (fun hc => ?_) (fun hc => ?_)
    · rw [if_neg hc] at h
      cases h
      exact aw_vreturn d_Listing_goOn_84 rfl (Nat.le_of_ble_eq_true rfl) (Nat.le_of_ble_eq_true rfl) ⟨rfl, rfl⟩
    · rw [if_pos hc] at h
      refine aw_aload_n d_Listing_goOn_22 rfl rfl ?_
      refine aw_iload_n d_Listing_goOn_23 rfl rfl ?_
      refine aw_iload_n d_Listing_goOn_24 rfl rfl ?_
      obtain ⟨o25, e_o25, h⟩ := q_bind h
      obtain ⟨t25, e_t25, h⟩ := q_bind h
      refine aw_cV (v := (some (.int t25))) (As := [.int x1, .int x2]) (rest := []) (st' := [.int t25]) d_Listing_goOn_25 kV_Listing_43 (q_ob_spec e_o25).1 (q_ob_spec e_o25).2 (by refine ⟨?_, ?_, ?_, ?_⟩ <;> simp [u_Listing_canBeNext, R_Listing_addDraft, R_Listing_canBeMended, R_Listing_canBeNext, R_Listing_goOn, R_Trip_leastBroken, R_Trip_measure, R_Trip_put] <;> omega) rfl rfl (Nat.le_of_ble_eq_true rfl) rfl (mt_Listing_canBeNext e_t25) ?_
      refine aw_if_eq (tgt := 78) d_Listing_goOn_28 (by decide) (fun hc => ?_) (fun hc => ?_)
      · rw [if_pos hc] at h
        exact aw_pick [0, 1, 2] rfl (ih_2 _ _ _ _ _ h)
      · rw [if_neg hc] at h
        refine aw_aload_n d_Listing_goOn_31 rfl rfl ?_
        obtain ⟨t32, e_t32, h⟩ := q_bind h
        refine aw_gtr d_Listing_goOn_32 fl_Listing_30 (Or.inl ⟨_, rfl⟩) e_t32 ?_
        refine aw_iload_n d_Listing_goOn_35 rfl rfl ?_
        refine aw_iload_n d_Listing_goOn_36 rfl rfl ?_
        obtain ⟨o37, e_o37, h⟩ := q_bind h
        obtain ⟨⟨t37, M37⟩, e_t37, h⟩ := q_bind h
        dsimp only at h
        refine aw_cV (v := none) (As := [.int x1, .int x2]) (rest := []) (st' := []) d_Listing_goOn_37 kV_Listing_47 (q_ob_spec e_o37).1 (q_ob_spec e_o37).2 (by refine ⟨?_, ?_, ?_, ?_⟩ <;> simp [u_Trip_put, R_Listing_addDraft, R_Listing_canBeMended, R_Listing_canBeNext, R_Listing_goOn, R_Trip_leastBroken, R_Trip_measure, R_Trip_put] <;> omega) rfl rfl (Nat.le_of_ble_eq_true rfl) rfl (mt_Trip_put e_t37) ?_
        refine aw_aload_n d_Listing_goOn_40 rfl rfl ?_
        obtain ⟨t41, e_t41, h⟩ := q_bind h
        refine aw_gtr d_Listing_goOn_41 fl_Listing_30 (Or.inl ⟨_, rfl⟩) e_t41 ?_
        obtain ⟨o44, e_o44, h⟩ := q_bind h
        obtain ⟨⟨t44, M44⟩, e_t44, h⟩ := q_bind h
        dsimp only at h
        refine aw_cV (v := none) (As := []) (rest := []) (st' := []) d_Listing_goOn_44 kV_Listing_51 (q_ob_spec e_o44).1 (q_ob_spec e_o44).2 (by refine ⟨?_, ?_, ?_, ?_⟩ <;> simp [u_Trip_measure, R_Listing_addDraft, R_Listing_canBeMended, R_Listing_canBeNext, R_Listing_goOn, R_Trip_leastBroken, R_Trip_measure, R_Trip_put] <;> omega) rfl rfl (Nat.le_of_ble_eq_true rfl) rfl (mt_Trip_measure e_t44) ?_
        refine aw_aload_n d_Listing_goOn_47 rfl rfl ?_
        obtain ⟨t48, e_t48, h⟩ := q_bind h
        refine aw_gtr d_Listing_goOn_48 fl_Listing_30 (Or.inl ⟨_, rfl⟩) e_t48 ?_
        refine aw_iconst (v := -1) d_Listing_goOn_51 (by decide) ?_
        obtain ⟨o52, e_o52, h⟩ := q_bind h
        obtain ⟨t52, e_t52, h⟩ := q_bind h
        refine aw_cV (v := (some (.int t52))) (As := [.int (-1 : Int32)]) (rest := []) (st' := [.int t52]) d_Listing_goOn_52 kV_Listing_54 (q_ob_spec e_o52).1 (q_ob_spec e_o52).2 (by refine ⟨?_, ?_, ?_, ?_⟩ <;> simp [u_Trip_leastBroken, R_Listing_addDraft, R_Listing_canBeMended, R_Listing_canBeNext, R_Listing_goOn, R_Trip_leastBroken, R_Trip_measure, R_Trip_put] <;> omega) rfl rfl (Nat.le_of_ble_eq_true rfl) rfl (mt_Trip_leastBroken e_t52) ?_
        refine aw_istore_n (ls' := [(3, .int _), (0, .ref _), (1, .int _), (2, .int _)]) d_Listing_goOn_55 rfl (Nat.le_of_ble_eq_true rfl) rfl ?_
        refine aw_iload_n d_Listing_goOn_56 rfl rfl ?_
        refine aw_if_ne (tgt := 64) d_Listing_goOn_57 (by decide) (fun hc => ?_) (fun hc => ?_)
        · rw [if_neg hc] at h
          exact aw_pick [1, 2, 3, 0] rfl (ih_1 _ _ _ _ _ h)
        · rw [if_pos hc] at h
          refine aw_aload_n d_Listing_goOn_60 rfl rfl ?_
          obtain ⟨o61, e_o61, h⟩ := q_bind h
          obtain ⟨⟨t61, M61⟩, e_t61, h⟩ := q_bind h
          dsimp only at h
          refine aw_cV (v := none) (As := []) (rest := []) (st' := []) d_Listing_goOn_61 kV_Listing_58 (q_ob_spec e_o61).1 (q_ob_spec e_o61).2 (by refine ⟨?_, ?_, ?_, ?_⟩ <;> simp [u_Listing_addDraft, R_Listing_addDraft, R_Listing_canBeMended, R_Listing_canBeNext, R_Listing_goOn, R_Trip_leastBroken, R_Trip_measure, R_Trip_put] <;> omega) rfl rfl (Nat.le_of_ble_eq_true rfl) rfl (mt_Listing_addDraft e_t61) ?_
          exact aw_pick [1, 2, 3, 0] rfl (ih_1 _ _ _ _ _ h)
set_option maxHeartbeats 4000000 in
theorem s_Listing_goOn_1 {d : Nat} {rec : am_M → Nat → Int32 → Option (Unit × am_M)} (hrec : ∀ {M : am_M} {a0 : Nat} {a1 : Int32} {res : Unit} {M' : am_M}, rec M a0 a1 = some (res, M') → AMet y_Listing_goOn u_Listing_goOn (R_Listing_goOn d) [.ref a0, .int a1] M (fun r M2 => r = .inl none ∧ M2 = M')) {rc : Nat → Nat → Int32 → Int32 → Int32 → am_M → Option (Unit × am_M)} {res : Unit} {M' : am_M} (ih_0 : ∀ (r0 : Nat) (x1 : Int32) (x2 : Int32) (x3 : Int32) (M : am_M), rc 0 r0 x1 x2 x3 M = some (res, M') → AW u_Listing_goOn (R_Listing_goOn (d + 1)) 0 0 9 [(0, .ref r0), (1, .int x1), (2, .int x2)] [] M (fun r M2 => r = .inl none ∧ M2 = M')) (ih_1 : ∀ (r0 : Nat) (x1 : Int32) (x2 : Int32) (x3 : Int32) (M : am_M), rc 1 r0 x1 x2 x3 M = some (res, M') → AW u_Listing_goOn (R_Listing_goOn (d + 1)) 0 0 64 [(0, .ref r0), (1, .int x1), (2, .int x2), (3, .int x3)] [] M (fun r M2 => r = .inl none ∧ M2 = M')) (ih_2 : ∀ (r0 : Nat) (x1 : Int32) (x2 : Int32) (x3 : Int32) (M : am_M), rc 2 r0 x1 x2 x3 M = some (res, M') → AW u_Listing_goOn (R_Listing_goOn (d + 1)) 0 0 78 [(0, .ref r0), (1, .int x1), (2, .int x2)] [] M (fun r M2 => r = .inl none ∧ M2 = M')) : ∀ (r0 : Nat) (x1 : Int32) (x2 : Int32) (x3 : Int32) (M : am_M), a_Listing_goOn_1 rec rc r0 x1 x2 x3 M = some (res, M') → AW u_Listing_goOn (R_Listing_goOn (d + 1)) 0 0 64 [(0, .ref r0), (1, .int x1), (2, .int x2), (3, .int x3)] [] M (fun r M2 => r = .inl none ∧ M2 = M') := by
  intro r0 x1 x2 x3 M h
  unfold a_Listing_goOn_1 at h
  refine aw_iload_n d_Listing_goOn_64 rfl rfl ?_
  obtain ⟨t65, e_t65, h⟩ := q_bind h
  refine aw_cS (v := (some (.int t65))) (As := [.int x3]) (rest := []) (st' := [.int t65]) d_Listing_goOn_65 kS_Listing_61 (by refine ⟨?_, ?_, ?_, ?_⟩ <;> simp [u_Listing_canBeMended, R_Listing_addDraft, R_Listing_canBeMended, R_Listing_canBeNext, R_Listing_goOn, R_Trip_leastBroken, R_Trip_measure, R_Trip_put] <;> omega) rfl rfl (Nat.le_of_ble_eq_true rfl) rfl (mt_Listing_canBeMended e_t65) ?_
  refine aw_if_eq (tgt := 78) d_Listing_goOn_68 (by decide) (fun hc => ?_) (fun hc => ?_)
  · rw [if_pos hc] at h
    exact aw_pick [0, 1, 2] rfl (ih_2 _ _ _ _ _ h)
  · rw [if_neg hc] at h
    refine aw_aload_n d_Listing_goOn_71 rfl rfl ?_
    refine aw_iload_n d_Listing_goOn_72 rfl rfl ?_
    refine aw_iconst (v := 1) d_Listing_goOn_73 (by decide) ?_
    refine aw_iadd d_Listing_goOn_74 ?_
    obtain ⟨o75, e_o75, h⟩ := q_bind h
    obtain ⟨⟨t75, M75⟩, e_t75, h⟩ := q_bind h
    dsimp only at h
    refine aw_cV (v := none) (As := [.int (x1 + (1 : Int32))]) (rest := []) (st' := []) d_Listing_goOn_75 kV_Listing_39 (q_ob_spec e_o75).1 (q_ob_spec e_o75).2 (by refine ⟨?_, ?_, ?_, ?_⟩ <;> simp [u_Listing_goOn, R_Listing_addDraft, R_Listing_canBeMended, R_Listing_canBeNext, R_Listing_goOn, R_Trip_leastBroken, R_Trip_measure, R_Trip_put] <;> omega) rfl rfl (Nat.le_of_ble_eq_true rfl) rfl (hrec e_t75) ?_
    exact aw_pick [0, 1, 2] rfl (ih_2 _ _ _ _ _ h)
set_option maxHeartbeats 4000000 in
theorem s_Listing_goOn_2 {d : Nat} {rec : am_M → Nat → Int32 → Option (Unit × am_M)} (hrec : ∀ {M : am_M} {a0 : Nat} {a1 : Int32} {res : Unit} {M' : am_M}, rec M a0 a1 = some (res, M') → AMet y_Listing_goOn u_Listing_goOn (R_Listing_goOn d) [.ref a0, .int a1] M (fun r M2 => r = .inl none ∧ M2 = M')) {rc : Nat → Nat → Int32 → Int32 → Int32 → am_M → Option (Unit × am_M)} {res : Unit} {M' : am_M} (ih_0 : ∀ (r0 : Nat) (x1 : Int32) (x2 : Int32) (x3 : Int32) (M : am_M), rc 0 r0 x1 x2 x3 M = some (res, M') → AW u_Listing_goOn (R_Listing_goOn (d + 1)) 0 0 9 [(0, .ref r0), (1, .int x1), (2, .int x2)] [] M (fun r M2 => r = .inl none ∧ M2 = M')) (ih_1 : ∀ (r0 : Nat) (x1 : Int32) (x2 : Int32) (x3 : Int32) (M : am_M), rc 1 r0 x1 x2 x3 M = some (res, M') → AW u_Listing_goOn (R_Listing_goOn (d + 1)) 0 0 64 [(0, .ref r0), (1, .int x1), (2, .int x2), (3, .int x3)] [] M (fun r M2 => r = .inl none ∧ M2 = M')) (ih_2 : ∀ (r0 : Nat) (x1 : Int32) (x2 : Int32) (x3 : Int32) (M : am_M), rc 2 r0 x1 x2 x3 M = some (res, M') → AW u_Listing_goOn (R_Listing_goOn (d + 1)) 0 0 78 [(0, .ref r0), (1, .int x1), (2, .int x2)] [] M (fun r M2 => r = .inl none ∧ M2 = M')) : ∀ (r0 : Nat) (x1 : Int32) (x2 : Int32) (x3 : Int32) (M : am_M), a_Listing_goOn_2 rec rc r0 x1 x2 x3 M = some (res, M') → AW u_Listing_goOn (R_Listing_goOn (d + 1)) 0 0 78 [(0, .ref r0), (1, .int x1), (2, .int x2)] [] M (fun r M2 => r = .inl none ∧ M2 = M') := by
  intro r0 x1 x2 x3 M h
  unfold a_Listing_goOn_2 at h
  refine aw_iinc (v := (x2 + (1 : Int32))) (ls' := [(2, .int _), (0, .ref _), (1, .int _)]) d_Listing_goOn_78 rfl rfl (Nat.le_of_ble_eq_true rfl) rfl ?_
  refine aw_goto (tgt := 9) d_Listing_goOn_81 (by decide) ?_
  exact aw_pick [1, 2, 0] rfl (ih_0 _ _ _ _ _ h)
theorem l_Listing_goOn {d : Nat} {rec : am_M → Nat → Int32 → Option (Unit × am_M)} (hrec : ∀ {M : am_M} {a0 : Nat} {a1 : Int32} {res : Unit} {M' : am_M}, rec M a0 a1 = some (res, M') → AMet y_Listing_goOn u_Listing_goOn (R_Listing_goOn d) [.ref a0, .int a1] M (fun r M2 => r = .inl none ∧ M2 = M')) {res : Unit} {M' : am_M} : ∀ F : Nat, (∀ (r0 : Nat) (x1 : Int32) (x2 : Int32) (x3 : Int32) (M : am_M), g_Listing_goOn rec F 0 r0 x1 x2 x3 M = some (res, M') → AW u_Listing_goOn (R_Listing_goOn (d + 1)) 0 0 9 [(0, .ref r0), (1, .int x1), (2, .int x2)] [] M (fun r M2 => r = .inl none ∧ M2 = M')) ∧ (∀ (r0 : Nat) (x1 : Int32) (x2 : Int32) (x3 : Int32) (M : am_M), g_Listing_goOn rec F 1 r0 x1 x2 x3 M = some (res, M') → AW u_Listing_goOn (R_Listing_goOn (d + 1)) 0 0 64 [(0, .ref r0), (1, .int x1), (2, .int x2), (3, .int x3)] [] M (fun r M2 => r = .inl none ∧ M2 = M')) ∧ (∀ (r0 : Nat) (x1 : Int32) (x2 : Int32) (x3 : Int32) (M : am_M), g_Listing_goOn rec F 2 r0 x1 x2 x3 M = some (res, M') → AW u_Listing_goOn (R_Listing_goOn (d + 1)) 0 0 78 [(0, .ref r0), (1, .int x1), (2, .int x2)] [] M (fun r M2 => r = .inl none ∧ M2 = M')) := by
  intro F
  induction F with
  | zero => exact ⟨fun _ _ _ _ _  h => (by cases h), fun _ _ _ _ _  h => (by cases h), fun _ _ _ _ _  h => (by cases h)⟩
  | succ F ih =>
    obtain ⟨ih0, ih1, ih2⟩ := ih
    exact ⟨s_Listing_goOn_0 hrec ih0 ih1 ih2, s_Listing_goOn_1 hrec ih0 ih1 ih2, s_Listing_goOn_2 hrec ih0 ih1 ih2⟩
set_option maxHeartbeats 4000000 in
theorem mr_Listing_goOn {d : Nat} {rec : am_M → Nat → Int32 → Option (Unit × am_M)} (hrec : ∀ {M : am_M} {a0 : Nat} {a1 : Int32} {res : Unit} {M' : am_M}, rec M a0 a1 = some (res, M') → AMet y_Listing_goOn u_Listing_goOn (R_Listing_goOn d) [.ref a0, .int a1] M (fun r M2 => r = .inl none ∧ M2 = M')) {M : am_M} {a0 : Nat} {a1 : Int32} {res : Unit} {M' : am_M} (h : e_Listing_goOn rec (g_Listing_goOn rec 1000000000) M a0 a1 = some (res, M')) : AMet y_Listing_goOn u_Listing_goOn (R_Listing_goOn (d + 1)) [.ref a0, .int a1] M (fun r M2 => r = .inl none ∧ M2 = M') := by
  refine am_met (by decide +kernel) w_Listing_goOn rfl rfl (Nat.le_of_ble_eq_true rfl) ?_
  show AW u_Listing_goOn (R_Listing_goOn (d + 1)) 0 0 0 [(0, .ref a0), (1, .int a1)] [] M (fun r M2 => r = .inl none ∧ M2 = M')
  have ih_0 := (l_Listing_goOn hrec (res := res) (M' := M') 1000000000).1
  have ih_1 := (l_Listing_goOn hrec (res := res) (M' := M') 1000000000).2.1
  have ih_2 := (l_Listing_goOn hrec (res := res) (M' := M') 1000000000).2.2
  unfold e_Listing_goOn at h
  generalize g_Listing_goOn rec 1000000000 = rc at h ih_0 ih_1 ih_2
  refine aw_iload_n d_Listing_goOn_0 rfl rfl ?_
  refine aw_bipush (v := 8) d_Listing_goOn_1 (by decide) ?_
  refine aw_icmp_lt (tgt := 7) d_Listing_goOn_3 (by decide) (fun hc => ?_) (fun hc => ?_)
  · rw [if_pos hc] at h
    refine aw_iconst (v := 0) d_Listing_goOn_7 (by decide) ?_
    refine aw_istore_n (ls' := [(2, .int _), (0, .ref _), (1, .int _)]) d_Listing_goOn_8 rfl (Nat.le_of_ble_eq_true rfl) rfl ?_
    exact aw_pick [1, 2, 0] rfl (ih_0 _ _ _ _ _ h)
  · rw [if_neg hc] at h
    cases h
    exact aw_vreturn d_Listing_goOn_6 rfl (Nat.le_of_ble_eq_true rfl) (Nat.le_of_ble_eq_true rfl) ⟨rfl, rfl⟩
theorem mt_Listing_goOn : ∀ (d : Nat) {M : am_M} {a0 : Nat} {a1 : Int32} {res : Unit} {M' : am_M}, f_Listing_goOn d M a0 a1 = some (res, M') → AMet y_Listing_goOn u_Listing_goOn (R_Listing_goOn d) [.ref a0, .int a1] M (fun r M2 => r = .inl none ∧ M2 = M')
  | 0, _, _, _, _, _, h => by cases h
  | d + 1, _, _, _, _, _, h => mr_Listing_goOn (fun h => mt_Listing_goOn d h) h
def y_Sharing_share : MethodName := ⟨"CrewOffice$Sharing", "share", "()Z"⟩
def u_Sharing_share : am_U := ("CrewOffice$Sharing", "share", prog_8_method_7_code, 4, (some .boolean), [])
def R_Sharing_share : Room := { frames := 24, cells := 0, slots := 0, locals := 898 }
theorem d_Sharing_share_0 : decode u_Sharing_share.2.2.1 0 = .ok (.aload_n 0, 1) := by decide +kernel
theorem d_Sharing_share_1 : decode u_Sharing_share.2.2.1 1 = .ok (.invokevirtual 65, 3) := by decide +kernel
theorem d_Sharing_share_4 : decode u_Sharing_share.2.2.1 4 = .ok (.aload_n 0, 1) := by decide +kernel
theorem d_Sharing_share_5 : decode u_Sharing_share.2.2.1 5 = .ok (.invokevirtual 68, 3) := by decide +kernel
theorem d_Sharing_share_8 : decode u_Sharing_share.2.2.1 8 = .ok (.aload_n 0, 1) := by decide +kernel
theorem d_Sharing_share_9 : decode u_Sharing_share.2.2.1 9 = .ok (.invokevirtual 71, 3) := by decide +kernel
theorem d_Sharing_share_12 : decode u_Sharing_share.2.2.1 12 = .ok (.aload_n 0, 1) := by decide +kernel
theorem d_Sharing_share_13 : decode u_Sharing_share.2.2.1 13 = .ok (.invokevirtual 74, 3) := by decide +kernel
theorem d_Sharing_share_16 : decode u_Sharing_share.2.2.1 16 = .ok (.iconst 0, 1) := by decide +kernel
theorem d_Sharing_share_17 : decode u_Sharing_share.2.2.1 17 = .ok (.istore_n 1, 1) := by decide +kernel
theorem d_Sharing_share_18 : decode u_Sharing_share.2.2.1 18 = .ok (.iconst 0, 1) := by decide +kernel
theorem d_Sharing_share_19 : decode u_Sharing_share.2.2.1 19 = .ok (.istore_n 2, 1) := by decide +kernel
theorem d_Sharing_share_20 : decode u_Sharing_share.2.2.1 20 = .ok (.iload_n 2, 1) := by decide +kernel
theorem d_Sharing_share_21 : decode u_Sharing_share.2.2.1 21 = .ok (.aload_n 0, 1) := by decide +kernel
theorem d_Sharing_share_22 : decode u_Sharing_share.2.2.1 22 = .ok (.getfield 35, 3) := by decide +kernel
theorem d_Sharing_share_25 : decode u_Sharing_share.2.2.1 25 = .ok (.getfield 77, 3) := by decide +kernel
theorem d_Sharing_share_28 : decode u_Sharing_share.2.2.1 28 = .ok (.if_icmp .ge 16, 3) := by decide +kernel
theorem d_Sharing_share_31 : decode u_Sharing_share.2.2.1 31 = .ok (.iload_n 1, 1) := by decide +kernel
theorem d_Sharing_share_32 : decode u_Sharing_share.2.2.1 32 = .ok (.iload_n 2, 1) := by decide +kernel
theorem d_Sharing_share_33 : decode u_Sharing_share.2.2.1 33 = .ok (.invokestatic 56, 3) := by decide +kernel
theorem d_Sharing_share_36 : decode u_Sharing_share.2.2.1 36 = .ok (.ior, 1) := by decide +kernel
theorem d_Sharing_share_37 : decode u_Sharing_share.2.2.1 37 = .ok (.istore_n 1, 1) := by decide +kernel
theorem d_Sharing_share_38 : decode u_Sharing_share.2.2.1 38 = .ok (.iinc 2 1, 3) := by decide +kernel
theorem d_Sharing_share_41 : decode u_Sharing_share.2.2.1 41 = .ok (.goto (-21), 3) := by decide +kernel
theorem d_Sharing_share_44 : decode u_Sharing_share.2.2.1 44 = .ok (.iconst 0, 1) := by decide +kernel
theorem d_Sharing_share_45 : decode u_Sharing_share.2.2.1 45 = .ok (.istore_n 2, 1) := by decide +kernel
theorem d_Sharing_share_46 : decode u_Sharing_share.2.2.1 46 = .ok (.iload_n 2, 1) := by decide +kernel
theorem d_Sharing_share_47 : decode u_Sharing_share.2.2.1 47 = .ok (.aload_n 0, 1) := by decide +kernel
theorem d_Sharing_share_48 : decode u_Sharing_share.2.2.1 48 = .ok (.getfield 81, 3) := by decide +kernel
theorem d_Sharing_share_51 : decode u_Sharing_share.2.2.1 51 = .ok (.if_icmp .ge 45, 3) := by decide +kernel
theorem d_Sharing_share_54 : decode u_Sharing_share.2.2.1 54 = .ok (.aload_n 0, 1) := by decide +kernel
theorem d_Sharing_share_55 : decode u_Sharing_share.2.2.1 55 = .ok (.iload_n 2, 1) := by decide +kernel
theorem d_Sharing_share_56 : decode u_Sharing_share.2.2.1 56 = .ok (.iload_n 1, 1) := by decide +kernel
theorem d_Sharing_share_57 : decode u_Sharing_share.2.2.1 57 = .ok (.invokevirtual 84, 3) := by decide +kernel
theorem d_Sharing_share_60 : decode u_Sharing_share.2.2.1 60 = .ok (.istore_n 3, 1) := by decide +kernel
theorem d_Sharing_share_61 : decode u_Sharing_share.2.2.1 61 = .ok (.iload_n 3, 1) := by decide +kernel
theorem d_Sharing_share_62 : decode u_Sharing_share.2.2.1 62 = .ok (.iconst (-1), 1) := by decide +kernel
theorem d_Sharing_share_63 : decode u_Sharing_share.2.2.1 63 = .ok (.if_icmp .ne 9, 3) := by decide +kernel
theorem d_Sharing_share_66 : decode u_Sharing_share.2.2.1 66 = .ok (.aload_n 0, 1) := by decide +kernel
theorem d_Sharing_share_67 : decode u_Sharing_share.2.2.1 67 = .ok (.invokevirtual 65, 3) := by decide +kernel
theorem d_Sharing_share_70 : decode u_Sharing_share.2.2.1 70 = .ok (.iconst 0, 1) := by decide +kernel
theorem d_Sharing_share_71 : decode u_Sharing_share.2.2.1 71 = .ok (.ireturn, 1) := by decide +kernel
theorem d_Sharing_share_72 : decode u_Sharing_share.2.2.1 72 = .ok (.aload_n 0, 1) := by decide +kernel
theorem d_Sharing_share_73 : decode u_Sharing_share.2.2.1 73 = .ok (.getfield 9, 3) := by decide +kernel
theorem d_Sharing_share_76 : decode u_Sharing_share.2.2.1 76 = .ok (.aload_n 0, 1) := by decide +kernel
theorem d_Sharing_share_77 : decode u_Sharing_share.2.2.1 77 = .ok (.getfield 15, 3) := by decide +kernel
theorem d_Sharing_share_80 : decode u_Sharing_share.2.2.1 80 = .ok (.iload_n 2, 1) := by decide +kernel
theorem d_Sharing_share_81 : decode u_Sharing_share.2.2.1 81 = .ok (.iaload, 1) := by decide +kernel
theorem d_Sharing_share_82 : decode u_Sharing_share.2.2.1 82 = .ok (.iload_n 3, 1) := by decide +kernel
theorem d_Sharing_share_83 : decode u_Sharing_share.2.2.1 83 = .ok (.iastore, 1) := by decide +kernel
theorem d_Sharing_share_84 : decode u_Sharing_share.2.2.1 84 = .ok (.iload_n 1, 1) := by decide +kernel
theorem d_Sharing_share_85 : decode u_Sharing_share.2.2.1 85 = .ok (.iload_n 3, 1) := by decide +kernel
theorem d_Sharing_share_86 : decode u_Sharing_share.2.2.1 86 = .ok (.iconst (-1), 1) := by decide +kernel
theorem d_Sharing_share_87 : decode u_Sharing_share.2.2.1 87 = .ok (.ixor, 1) := by decide +kernel
theorem d_Sharing_share_88 : decode u_Sharing_share.2.2.1 88 = .ok (.iand, 1) := by decide +kernel
theorem d_Sharing_share_89 : decode u_Sharing_share.2.2.1 89 = .ok (.istore_n 1, 1) := by decide +kernel
theorem d_Sharing_share_90 : decode u_Sharing_share.2.2.1 90 = .ok (.iinc 2 1, 3) := by decide +kernel
theorem d_Sharing_share_93 : decode u_Sharing_share.2.2.1 93 = .ok (.goto (-47), 3) := by decide +kernel
theorem d_Sharing_share_96 : decode u_Sharing_share.2.2.1 96 = .ok (.iload_n 1, 1) := by decide +kernel
theorem d_Sharing_share_97 : decode u_Sharing_share.2.2.1 97 = .ok (.ifCond .ne 7, 3) := by decide +kernel
theorem d_Sharing_share_100 : decode u_Sharing_share.2.2.1 100 = .ok (.iconst 1, 1) := by decide +kernel
theorem d_Sharing_share_101 : decode u_Sharing_share.2.2.1 101 = .ok (.goto 4, 3) := by decide +kernel
theorem d_Sharing_share_104 : decode u_Sharing_share.2.2.1 104 = .ok (.iconst 0, 1) := by decide +kernel
theorem d_Sharing_share_105 : decode u_Sharing_share.2.2.1 105 = .ok (.ireturn, 1) := by decide +kernel
theorem w_Sharing_share : am_code y_Sharing_share u_Sharing_share ∈ am_ws := am_mem (List.mem_of_getElem? (i := 896) (by decide +kernel)) rfl
def a_Sharing_share_0 (rc : Nat → Nat → Int32 → Int32 → am_M → Option (Int32 × am_M)) (r0 : Nat) (x1 : Int32) (x2 : Int32) (M : am_M) : Option (Int32 × am_M) := (q_gtr M r0 8 2).bind (fun t22 => (q_gti M t22 7 3).bind (fun t25 => if t25 ≤ x2 then (rc 1 r0 x1 (0 : Int32) M) else ((f_Sharing_bitOf M x2).bind (fun t33 => rc 0 r0 (x1 ||| t33) (x2 + (1 : Int32)) M))))
def a_Sharing_share_1 (rc : Nat → Nat → Int32 → Int32 → am_M → Option (Int32 × am_M)) (r0 : Nat) (x1 : Int32) (x2 : Int32) (M : am_M) : Option (Int32 × am_M) := (q_gti M r0 8 5).bind (fun t48 => if t48 ≤ x2 then (if x1 = 0 then (some ((1 : Int32), M)) else (some ((0 : Int32), M))) else ((q_ob M r0 8).bind (fun o57 => (f_Sharing_bestSet M r0 x2 x1).bind (fun p57 => if p57.1 = (-1 : Int32) then ((q_ob p57.2 r0 8).bind (fun o67 => (f_Sharing_forget p57.2 r0).bind (fun p67 => some ((0 : Int32), p67.2)))) else ((q_gtr p57.2 r0 8 3).bind (fun t73 => (q_gtr p57.2 r0 8 4).bind (fun t77 => (q_ldi p57.2 t77 x2).bind (fun t81 => (q_sti p57.2 t73 t81 p57.1).bind (fun M83 => rc 1 r0 (x1 &&& (p57.1 ^^^ (-1 : Int32))) (x2 + (1 : Int32)) M83)))))))))
def g_Sharing_share : Nat → Nat → Nat → Int32 → Int32 → am_M → Option (Int32 × am_M)
  | 0, _, _, _, _, _ => none
  | F + 1, 0, r0, x1, x2, M => a_Sharing_share_0 (g_Sharing_share F) r0 x1 x2 M
  | F + 1, 1, r0, x1, x2, M => a_Sharing_share_1 (g_Sharing_share F) r0 x1 x2 M
  | _ + 1, _ + 2, _, _, _, _ => none
def e_Sharing_share (rc : Nat → Nat → Int32 → Int32 → am_M → Option (Int32 × am_M)) (M : am_M) (a0 : Nat) : Option (Int32 × am_M) := (q_ob M a0 8).bind (fun o1 => (f_Sharing_forget M a0).bind (fun p1 => (q_ob p1.2 a0 8).bind (fun o5 => (f_Sharing_orderMembers p1.2 a0).bind (fun p5 => (q_ob p5.2 a0 8).bind (fun o9 => (f_Sharing_findAllowed p5.2 a0).bind (fun p9 => (q_ob p9.2 a0 8).bind (fun o13 => (f_Sharing_findRivals p9.2 a0).bind (fun p13 => rc 0 a0 (0 : Int32) (0 : Int32) p13.2))))))))
def f_Sharing_share (M : am_M) (a0 : Nat) : Option (Int32 × am_M) := e_Sharing_share (g_Sharing_share 1000000000) M a0
theorem kV_Sharing_65 : am_kV "CrewOffice$Sharing" 65 8 y_Sharing_forget u_Sharing_forget 0 := ⟨List.mem_of_getElem? (i := 897) (by decide +kernel), ⟨List.mem_of_getElem? (i := 466) (by decide +kernel), List.mem_of_getElem? (i := 467) (by decide +kernel)⟩, List.mem_of_getElem? (i := 64) (by decide +kernel), w_Sharing_forget, ⟨⟨by decide +kernel, by decide +kernel⟩, by decide +kernel⟩⟩
theorem kV_Sharing_68 : am_kV "CrewOffice$Sharing" 68 8 y_Sharing_orderMembers u_Sharing_orderMembers 0 := ⟨List.mem_of_getElem? (i := 898) (by decide +kernel), ⟨List.mem_of_getElem? (i := 900) (by decide +kernel), List.mem_of_getElem? (i := 19) (by decide +kernel)⟩, List.mem_of_getElem? (i := 64) (by decide +kernel), w_Sharing_orderMembers, ⟨⟨by decide +kernel, by decide +kernel⟩, by decide +kernel⟩⟩
theorem kV_Sharing_71 : am_kV "CrewOffice$Sharing" 71 8 y_Sharing_findAllowed u_Sharing_findAllowed 0 := ⟨List.mem_of_getElem? (i := 902) (by decide +kernel), ⟨List.mem_of_getElem? (i := 904) (by decide +kernel), List.mem_of_getElem? (i := 20) (by decide +kernel)⟩, List.mem_of_getElem? (i := 64) (by decide +kernel), w_Sharing_findAllowed, ⟨⟨by decide +kernel, by decide +kernel⟩, by decide +kernel⟩⟩
theorem kV_Sharing_74 : am_kV "CrewOffice$Sharing" 74 8 y_Sharing_findRivals u_Sharing_findRivals 0 := ⟨List.mem_of_getElem? (i := 914) (by decide +kernel), ⟨List.mem_of_getElem? (i := 916) (by decide +kernel), List.mem_of_getElem? (i := 22) (by decide +kernel)⟩, List.mem_of_getElem? (i := 64) (by decide +kernel), w_Sharing_findRivals, ⟨⟨by decide +kernel, by decide +kernel⟩, by decide +kernel⟩⟩
theorem kV_Sharing_84 : am_kV "CrewOffice$Sharing" 84 8 y_Sharing_bestSet u_Sharing_bestSet 2 := ⟨List.mem_of_getElem? (i := 922) (by decide +kernel), ⟨List.mem_of_getElem? (i := 924) (by decide +kernel), List.mem_of_getElem? (i := 24) (by decide +kernel)⟩, List.mem_of_getElem? (i := 64) (by decide +kernel), w_Sharing_bestSet, ⟨⟨by decide +kernel, by decide +kernel⟩, by decide +kernel⟩⟩
set_option maxHeartbeats 4000000 in
theorem s_Sharing_share_0 {rc : Nat → Nat → Int32 → Int32 → am_M → Option (Int32 × am_M)} {res : Int32} {M' : am_M} (ih_0 : ∀ (r0 : Nat) (x1 : Int32) (x2 : Int32) (M : am_M), rc 0 r0 x1 x2 M = some (res, M') → AW u_Sharing_share R_Sharing_share 0 0 20 [(0, .ref r0), (1, .int x1), (2, .int x2)] [] M (fun r M2 => r = .inl (some (.int res)) ∧ M2 = M')) (ih_1 : ∀ (r0 : Nat) (x1 : Int32) (x2 : Int32) (M : am_M), rc 1 r0 x1 x2 M = some (res, M') → AW u_Sharing_share R_Sharing_share 0 0 46 [(0, .ref r0), (1, .int x1), (2, .int x2)] [] M (fun r M2 => r = .inl (some (.int res)) ∧ M2 = M')) : ∀ (r0 : Nat) (x1 : Int32) (x2 : Int32) (M : am_M), a_Sharing_share_0 rc r0 x1 x2 M = some (res, M') → AW u_Sharing_share R_Sharing_share 0 0 20 [(0, .ref r0), (1, .int x1), (2, .int x2)] [] M (fun r M2 => r = .inl (some (.int res)) ∧ M2 = M') := by
  intro r0 x1 x2 M h
  unfold a_Sharing_share_0 at h
  refine aw_iload_n d_Sharing_share_20 rfl rfl ?_
  refine aw_aload_n d_Sharing_share_21 rfl rfl ?_
  obtain ⟨t22, e_t22, h⟩ := q_bind h
  refine aw_gtr d_Sharing_share_22 fl_Sharing_35 (Or.inl ⟨_, rfl⟩) e_t22 ?_
  obtain ⟨t25, e_t25, h⟩ := q_bind h
  refine aw_gti d_Sharing_share_25 fl_Sharing_77 (Or.inl rfl) e_t25 ?_
  refine aw_icmp_ge (tgt := 44) d_Sharing_share_28 (by decide) (fun hc => ?_) (fun hc => ?_)
  · rw [if_pos hc] at h
    refine aw_iconst (v := 0) d_Sharing_share_44 (by decide) ?_
    refine aw_istore_n (ls' := [(2, .int _), (0, .ref _), (1, .int _)]) d_Sharing_share_45 rfl (Nat.le_of_ble_eq_true rfl) rfl ?_
    exact aw_pick [1, 2, 0] rfl (ih_1 _ _ _ _ h)
  · rw [if_neg hc] at h
    refine aw_iload_n d_Sharing_share_31 rfl rfl ?_
    refine aw_iload_n d_Sharing_share_32 rfl rfl ?_
    obtain ⟨t33, e_t33, h⟩ := q_bind h
    refine aw_cS (v := (some (.int t33))) (As := [.int x2]) (rest := [.int x1]) (st' := [.int t33, .int x1]) d_Sharing_share_33 kS_Sharing_56 ⟨Nat.le_of_ble_eq_true rfl, Nat.le_of_ble_eq_true rfl, Nat.le_of_ble_eq_true rfl, Nat.le_of_ble_eq_true rfl⟩ rfl rfl (Nat.le_of_ble_eq_true rfl) rfl (mt_Sharing_bitOf e_t33) ?_
    refine aw_ior d_Sharing_share_36 ?_
    refine aw_istore_n (ls' := [(1, .int _), (0, .ref _), (2, .int _)]) d_Sharing_share_37 rfl (Nat.le_of_ble_eq_true rfl) rfl ?_
    refine aw_iinc (v := (x2 + (1 : Int32))) (ls' := [(2, .int _), (1, .int _), (0, .ref _)]) d_Sharing_share_38 rfl rfl (Nat.le_of_ble_eq_true rfl) rfl ?_
    refine aw_goto (tgt := 20) d_Sharing_share_41 (by decide) ?_
    exact aw_pick [2, 1, 0] rfl (ih_0 _ _ _ _ h)
set_option maxHeartbeats 4000000 in
theorem s_Sharing_share_1 {rc : Nat → Nat → Int32 → Int32 → am_M → Option (Int32 × am_M)} {res : Int32} {M' : am_M} (ih_0 : ∀ (r0 : Nat) (x1 : Int32) (x2 : Int32) (M : am_M), rc 0 r0 x1 x2 M = some (res, M') → AW u_Sharing_share R_Sharing_share 0 0 20 [(0, .ref r0), (1, .int x1), (2, .int x2)] [] M (fun r M2 => r = .inl (some (.int res)) ∧ M2 = M')) (ih_1 : ∀ (r0 : Nat) (x1 : Int32) (x2 : Int32) (M : am_M), rc 1 r0 x1 x2 M = some (res, M') → AW u_Sharing_share R_Sharing_share 0 0 46 [(0, .ref r0), (1, .int x1), (2, .int x2)] [] M (fun r M2 => r = .inl (some (.int res)) ∧ M2 = M')) : ∀ (r0 : Nat) (x1 : Int32) (x2 : Int32) (M : am_M), a_Sharing_share_1 rc r0 x1 x2 M = some (res, M') → AW u_Sharing_share R_Sharing_share 0 0 46 [(0, .ref r0), (1, .int x1), (2, .int x2)] [] M (fun r M2 => r = .inl (some (.int res)) ∧ M2 = M') := by
  intro r0 x1 x2 M h
  unfold a_Sharing_share_1 at h
  refine aw_iload_n d_Sharing_share_46 rfl rfl ?_
  refine aw_aload_n d_Sharing_share_47 rfl rfl ?_
  obtain ⟨t48, e_t48, h⟩ := q_bind h
  refine aw_gti d_Sharing_share_48 fl_Sharing_81 (Or.inl rfl) e_t48 ?_
  refine aw_icmp_ge (tgt := 96) d_Sharing_share_51 (by decide) (fun hc => ?_) (fun hc => ?_)
  · rw [if_pos hc] at h
    refine aw_iload_n d_Sharing_share_96 rfl rfl ?_
    refine aw_if_ne (tgt := 104) d_Sharing_share_97 (by decide) (fun hc => ?_) (fun hc => ?_)
    · rw [if_neg hc] at h
      refine aw_iconst (v := 0) d_Sharing_share_104 (by decide) ?_
      cases h
      exact aw_zreturn d_Sharing_share_105 rfl (by decide) (Nat.le_of_ble_eq_true rfl) (Nat.le_of_ble_eq_true rfl) ⟨rfl, rfl⟩
    · rw [if_pos hc] at h
      refine aw_iconst (v := 1) d_Sharing_share_100 (by decide) ?_
      refine aw_goto (tgt := 105) d_Sharing_share_101 (by decide) ?_
      cases h
      exact aw_zreturn d_Sharing_share_105 rfl (by decide) (Nat.le_of_ble_eq_true rfl) (Nat.le_of_ble_eq_true rfl) ⟨rfl, rfl⟩
  · rw [if_neg hc] at h
    refine aw_aload_n d_Sharing_share_54 rfl rfl ?_
    refine aw_iload_n d_Sharing_share_55 rfl rfl ?_
    refine aw_iload_n d_Sharing_share_56 rfl rfl ?_
    obtain ⟨o57, e_o57, h⟩ := q_bind h
    obtain ⟨⟨t57, M57⟩, e_t57, h⟩ := q_bind h
    dsimp only at h
    refine aw_cV (v := (some (.int t57))) (As := [.int x2, .int x1]) (rest := []) (st' := [.int t57]) d_Sharing_share_57 kV_Sharing_84 (q_ob_spec e_o57).1 (q_ob_spec e_o57).2 ⟨Nat.le_of_ble_eq_true rfl, Nat.le_of_ble_eq_true rfl, Nat.le_of_ble_eq_true rfl, Nat.le_of_ble_eq_true rfl⟩ rfl rfl (Nat.le_of_ble_eq_true rfl) rfl (mt_Sharing_bestSet e_t57) ?_
    refine aw_istore_n (ls' := [(3, .int _), (0, .ref _), (1, .int _), (2, .int _)]) d_Sharing_share_60 rfl (Nat.le_of_ble_eq_true rfl) rfl ?_
    refine aw_iload_n d_Sharing_share_61 rfl rfl ?_
    refine aw_iconst (v := -1) d_Sharing_share_62 (by decide) ?_
    refine aw_icmp_ne (tgt := 72) d_Sharing_share_63 (by decide) (fun hc => ?_) (fun hc => ?_)
    · rw [if_neg hc] at h
      refine aw_aload_n d_Sharing_share_72 rfl rfl ?_
      obtain ⟨t73, e_t73, h⟩ := q_bind h
      refine aw_gtr d_Sharing_share_73 fl_Sharing_9 (Or.inr ⟨_, rfl⟩) e_t73 ?_
      refine aw_aload_n d_Sharing_share_76 rfl rfl ?_
      obtain ⟨t77, e_t77, h⟩ := q_bind h
      refine aw_gtr d_Sharing_share_77 fl_Sharing_15 (Or.inr ⟨_, rfl⟩) e_t77 ?_
      refine aw_iload_n d_Sharing_share_80 rfl rfl ?_
      obtain ⟨t81, e_t81, h⟩ := q_bind h
      refine aw_ldi d_Sharing_share_81 e_t81 ?_
      refine aw_iload_n d_Sharing_share_82 rfl rfl ?_
      obtain ⟨M83, e_M83, h⟩ := q_bind h
      refine aw_sti d_Sharing_share_83 e_M83 ?_
      refine aw_iload_n d_Sharing_share_84 rfl rfl ?_
      refine aw_iload_n d_Sharing_share_85 rfl rfl ?_
      refine aw_iconst (v := -1) d_Sharing_share_86 (by decide) ?_
      refine aw_ixor d_Sharing_share_87 ?_
      refine aw_iand d_Sharing_share_88 ?_
      refine aw_istore_n (ls' := [(1, .int _), (3, .int _), (0, .ref _), (2, .int _)]) d_Sharing_share_89 rfl (Nat.le_of_ble_eq_true rfl) rfl ?_
      refine aw_iinc (v := (x2 + (1 : Int32))) (ls' := [(2, .int _), (1, .int _), (3, .int _), (0, .ref _)]) d_Sharing_share_90 rfl rfl (Nat.le_of_ble_eq_true rfl) rfl ?_
      refine aw_goto (tgt := 46) d_Sharing_share_93 (by decide) ?_
      exact aw_pick [3, 1, 0] rfl (ih_1 _ _ _ _ h)
    · rw [if_pos hc] at h
      refine aw_aload_n d_Sharing_share_66 rfl rfl ?_
      obtain ⟨o67, e_o67, h⟩ := q_bind h
      obtain ⟨⟨t67, M67⟩, e_t67, h⟩ := q_bind h
      dsimp only at h
      refine aw_cV (v := none) (As := []) (rest := []) (st' := []) d_Sharing_share_67 kV_Sharing_65 (q_ob_spec e_o67).1 (q_ob_spec e_o67).2 ⟨Nat.le_of_ble_eq_true rfl, Nat.le_of_ble_eq_true rfl, Nat.le_of_ble_eq_true rfl, Nat.le_of_ble_eq_true rfl⟩ rfl rfl (Nat.le_of_ble_eq_true rfl) rfl (mt_Sharing_forget e_t67) ?_
      refine aw_iconst (v := 0) d_Sharing_share_70 (by decide) ?_
      cases h
      exact aw_zreturn d_Sharing_share_71 rfl (by decide) (Nat.le_of_ble_eq_true rfl) (Nat.le_of_ble_eq_true rfl) ⟨rfl, rfl⟩
theorem l_Sharing_share {res : Int32} {M' : am_M} : ∀ F : Nat, (∀ (r0 : Nat) (x1 : Int32) (x2 : Int32) (M : am_M), g_Sharing_share F 0 r0 x1 x2 M = some (res, M') → AW u_Sharing_share R_Sharing_share 0 0 20 [(0, .ref r0), (1, .int x1), (2, .int x2)] [] M (fun r M2 => r = .inl (some (.int res)) ∧ M2 = M')) ∧ (∀ (r0 : Nat) (x1 : Int32) (x2 : Int32) (M : am_M), g_Sharing_share F 1 r0 x1 x2 M = some (res, M') → AW u_Sharing_share R_Sharing_share 0 0 46 [(0, .ref r0), (1, .int x1), (2, .int x2)] [] M (fun r M2 => r = .inl (some (.int res)) ∧ M2 = M')) := by
  intro F
  induction F with
  | zero => exact ⟨fun _ _ _ _  h => (by cases h), fun _ _ _ _  h => (by cases h)⟩
  | succ F ih =>
    obtain ⟨ih0, ih1⟩ := ih
    exact ⟨s_Sharing_share_0 ih0 ih1, s_Sharing_share_1 ih0 ih1⟩
set_option maxHeartbeats 4000000 in
theorem mt_Sharing_share {M : am_M} {a0 : Nat} {res : Int32} {M' : am_M} (h : f_Sharing_share M a0 = some (res, M')) : AMet y_Sharing_share u_Sharing_share R_Sharing_share [.ref a0] M (fun r M2 => r = .inl (some (.int res)) ∧ M2 = M') := by
  refine am_met (by decide +kernel) w_Sharing_share rfl rfl (Nat.le_of_ble_eq_true rfl) ?_
  show AW u_Sharing_share R_Sharing_share 0 0 0 [(0, .ref a0)] [] M (fun r M2 => r = .inl (some (.int res)) ∧ M2 = M')
  have ih_0 := (l_Sharing_share (res := res) (M' := M') 1000000000).1
  have ih_1 := (l_Sharing_share (res := res) (M' := M') 1000000000).2
  unfold f_Sharing_share at h
  unfold e_Sharing_share at h
  generalize g_Sharing_share 1000000000 = rc at h ih_0 ih_1
  refine aw_aload_n d_Sharing_share_0 rfl rfl ?_
  obtain ⟨o1, e_o1, h⟩ := q_bind h
  obtain ⟨⟨t1, M1⟩, e_t1, h⟩ := q_bind h
  dsimp only at h
  refine aw_cV (v := none) (As := []) (rest := []) (st' := []) d_Sharing_share_1 kV_Sharing_65 (q_ob_spec e_o1).1 (q_ob_spec e_o1).2 ⟨Nat.le_of_ble_eq_true rfl, Nat.le_of_ble_eq_true rfl, Nat.le_of_ble_eq_true rfl, Nat.le_of_ble_eq_true rfl⟩ rfl rfl (Nat.le_of_ble_eq_true rfl) rfl (mt_Sharing_forget e_t1) ?_
  refine aw_aload_n d_Sharing_share_4 rfl rfl ?_
  obtain ⟨o5, e_o5, h⟩ := q_bind h
  obtain ⟨⟨t5, M5⟩, e_t5, h⟩ := q_bind h
  dsimp only at h
  refine aw_cV (v := none) (As := []) (rest := []) (st' := []) d_Sharing_share_5 kV_Sharing_68 (q_ob_spec e_o5).1 (q_ob_spec e_o5).2 ⟨Nat.le_of_ble_eq_true rfl, Nat.le_of_ble_eq_true rfl, Nat.le_of_ble_eq_true rfl, Nat.le_of_ble_eq_true rfl⟩ rfl rfl (Nat.le_of_ble_eq_true rfl) rfl (mt_Sharing_orderMembers e_t5) ?_
  refine aw_aload_n d_Sharing_share_8 rfl rfl ?_
  obtain ⟨o9, e_o9, h⟩ := q_bind h
  obtain ⟨⟨t9, M9⟩, e_t9, h⟩ := q_bind h
  dsimp only at h
  refine aw_cV (v := none) (As := []) (rest := []) (st' := []) d_Sharing_share_9 kV_Sharing_71 (q_ob_spec e_o9).1 (q_ob_spec e_o9).2 ⟨Nat.le_of_ble_eq_true rfl, Nat.le_of_ble_eq_true rfl, Nat.le_of_ble_eq_true rfl, Nat.le_of_ble_eq_true rfl⟩ rfl rfl (Nat.le_of_ble_eq_true rfl) rfl (mt_Sharing_findAllowed e_t9) ?_
  refine aw_aload_n d_Sharing_share_12 rfl rfl ?_
  obtain ⟨o13, e_o13, h⟩ := q_bind h
  obtain ⟨⟨t13, M13⟩, e_t13, h⟩ := q_bind h
  dsimp only at h
  refine aw_cV (v := none) (As := []) (rest := []) (st' := []) d_Sharing_share_13 kV_Sharing_74 (q_ob_spec e_o13).1 (q_ob_spec e_o13).2 ⟨Nat.le_of_ble_eq_true rfl, Nat.le_of_ble_eq_true rfl, Nat.le_of_ble_eq_true rfl, Nat.le_of_ble_eq_true rfl⟩ rfl rfl (Nat.le_of_ble_eq_true rfl) rfl (mt_Sharing_findRivals e_t13) ?_
  refine aw_iconst (v := 0) d_Sharing_share_16 (by decide) ?_
  refine aw_istore_n (ls' := [(1, .int _), (0, .ref _)]) d_Sharing_share_17 rfl (Nat.le_of_ble_eq_true rfl) rfl ?_
  refine aw_iconst (v := 0) d_Sharing_share_18 (by decide) ?_
  refine aw_istore_n (ls' := [(2, .int _), (1, .int _), (0, .ref _)]) d_Sharing_share_19 rfl (Nat.le_of_ble_eq_true rfl) rfl ?_
  exact aw_pick [2, 1, 0] rfl (ih_0 _ _ _ _ h)
def y_Office_award : MethodName := ⟨"CrewOffice", "award", "()Z"⟩
def u_Office_award : am_U := ("CrewOffice", "award", prog_1_method_19_code, 1, (some .boolean), [])
def R_Office_award : Room := { frames := 25, cells := 1, slots := 6, locals := 921 }
theorem d_Office_award_0 : decode u_Office_award.2.2.1 0 = .ok (.aload_n 0, 1) := by decide +kernel
theorem d_Office_award_1 : decode u_Office_award.2.2.1 1 = .ok (.getfield 37, 3) := by decide +kernel
theorem d_Office_award_4 : decode u_Office_award.2.2.1 4 = .ok (.getfield 200, 3) := by decide +kernel
theorem d_Office_award_7 : decode u_Office_award.2.2.1 7 = .ok (.iconst (-1), 1) := by decide +kernel
theorem d_Office_award_8 : decode u_Office_award.2.2.1 8 = .ok (.if_icmp .eq 7, 3) := by decide +kernel
theorem d_Office_award_11 : decode u_Office_award.2.2.1 11 = .ok (.iconst 1, 1) := by decide +kernel
theorem d_Office_award_12 : decode u_Office_award.2.2.1 12 = .ok (.goto 4, 3) := by decide +kernel
theorem d_Office_award_15 : decode u_Office_award.2.2.1 15 = .ok (.iconst 0, 1) := by decide +kernel
theorem d_Office_award_16 : decode u_Office_award.2.2.1 16 = .ok (.invokestatic 131, 3) := by decide +kernel
theorem d_Office_award_19 : decode u_Office_award.2.2.1 19 = .ok (.aload_n 0, 1) := by decide +kernel
theorem d_Office_award_20 : decode u_Office_award.2.2.1 20 = .ok (.getfield 46, 3) := by decide +kernel
theorem d_Office_award_23 : decode u_Office_award.2.2.1 23 = .ok (.invokevirtual 201, 3) := by decide +kernel
theorem d_Office_award_26 : decode u_Office_award.2.2.1 26 = .ok (.ireturn, 1) := by decide +kernel
theorem w_Office_award : am_code y_Office_award u_Office_award ∈ am_ws := am_mem (List.mem_of_getElem? (i := 892) (by decide +kernel)) rfl
def a_Office_award_0 (rc : Nat → Nat → Int32 → am_M → Option ((Int32 ⊕ Nat) × am_M)) (r0 : Nat) (s0 : Int32) (M : am_M) : Option ((Int32 ⊕ Nat) × am_M) := (f_Office_needState M s0).bind (fun p16 => q_try p16 (fun _ M16 => (q_gtr M16 r0 9 4).bind (fun t20 => (q_ob M16 t20 8).bind (fun o23 => (f_Sharing_share M16 t20).bind (fun p23 => (q_z p23.1).bind (fun z26 => some (.inl z26, p23.2)))))))
def g_Office_award : Nat → Nat → Nat → Int32 → am_M → Option ((Int32 ⊕ Nat) × am_M)
  | 0, _, _, _, _ => none
  | F + 1, 0, r0, s0, M => a_Office_award_0 (g_Office_award F) r0 s0 M
  | _ + 1, _ + 1, _, _, _ => none
def e_Office_award (rc : Nat → Nat → Int32 → am_M → Option ((Int32 ⊕ Nat) × am_M)) (M : am_M) (a0 : Nat) : Option ((Int32 ⊕ Nat) × am_M) := (q_gtr M a0 9 3).bind (fun t1 => (q_gti M t1 7 3).bind (fun t4 => if t4 = (-1 : Int32) then (rc 0 a0 (0 : Int32) M) else (rc 0 a0 (1 : Int32) M)))
def f_Office_award (M : am_M) (a0 : Nat) : Option ((Int32 ⊕ Nat) × am_M) := e_Office_award (g_Office_award 1000000000) M a0
theorem kV_Office_201 : am_kV "CrewOffice" 201 8 y_Sharing_share u_Sharing_share 0 := ⟨List.mem_of_getElem? (i := 893) (by decide +kernel), ⟨List.mem_of_getElem? (i := 894) (by decide +kernel), List.mem_of_getElem? (i := 895) (by decide +kernel)⟩, List.mem_of_getElem? (i := 64) (by decide +kernel), w_Sharing_share, ⟨⟨by decide +kernel, by decide +kernel⟩, by decide +kernel⟩⟩
set_option maxHeartbeats 4000000 in
theorem s_Office_award_0 {rc : Nat → Nat → Int32 → am_M → Option ((Int32 ⊕ Nat) × am_M)} {res : Int32 ⊕ Nat} {M' : am_M} (ih_0 : ∀ (r0 : Nat) (s0 : Int32) (M : am_M), rc 0 r0 s0 M = some (res, M') → AW u_Office_award R_Office_award 0 0 16 [(0, .ref r0)] [.int s0] M (fun r M2 => r = am_rI res ∧ M2 = M')) : ∀ (r0 : Nat) (s0 : Int32) (M : am_M), a_Office_award_0 rc r0 s0 M = some (res, M') → AW u_Office_award R_Office_award 0 0 16 [(0, .ref r0)] [.int s0] M (fun r M2 => r = am_rI res ∧ M2 = M') := by
  intro r0 s0 M h
  unfold a_Office_award_0 at h
  obtain ⟨⟨t16, M16⟩, e_t16, h⟩ := q_bind h
  cases t16 with
  | inr kx =>
    cases h
    exact aw_cSx (As := [.int s0]) (rest := []) d_Office_award_16 kS_Office_131 ⟨Nat.le_of_ble_eq_true rfl, Nat.le_of_ble_eq_true rfl, Nat.le_of_ble_eq_true rfl, Nat.le_of_ble_eq_true rfl⟩ rfl rfl (Nat.le_of_ble_eq_true rfl) (mt_Office_needState e_t16) rfl ⟨rfl, rfl⟩
  | inl vx =>
    dsimp only [q_try] at h
    refine aw_cS (v := none) (As := [.int s0]) (rest := []) (st' := []) d_Office_award_16 kS_Office_131 ⟨Nat.le_of_ble_eq_true rfl, Nat.le_of_ble_eq_true rfl, Nat.le_of_ble_eq_true rfl, Nat.le_of_ble_eq_true rfl⟩ rfl rfl (Nat.le_of_ble_eq_true rfl) rfl (mt_Office_needState e_t16) ?_
    refine aw_aload_n d_Office_award_19 rfl rfl ?_
    obtain ⟨t20, e_t20, h⟩ := q_bind h
    refine aw_gtr d_Office_award_20 fl_Office_46 (Or.inl ⟨_, rfl⟩) e_t20 ?_
    obtain ⟨o23, e_o23, h⟩ := q_bind h
    obtain ⟨⟨t23, M23⟩, e_t23, h⟩ := q_bind h
    dsimp only at h
    refine aw_cV (v := (some (.int t23))) (As := []) (rest := []) (st' := [.int t23]) d_Office_award_23 kV_Office_201 (q_ob_spec e_o23).1 (q_ob_spec e_o23).2 ⟨Nat.le_of_ble_eq_true rfl, Nat.le_of_ble_eq_true rfl, Nat.le_of_ble_eq_true rfl, Nat.le_of_ble_eq_true rfl⟩ rfl rfl (Nat.le_of_ble_eq_true rfl) rfl (mt_Sharing_share e_t23) ?_
    obtain ⟨z26, e_z26, h⟩ := q_bind h
    obtain ⟨hz, hn⟩ := q_z_spec e_z26
    cases h
    rw [hz]
    exact aw_zreturn d_Office_award_26 rfl hn (Nat.le_of_ble_eq_true rfl) (Nat.le_of_ble_eq_true rfl) ⟨rfl, rfl⟩
theorem l_Office_award {res : Int32 ⊕ Nat} {M' : am_M} : ∀ F : Nat, (∀ (r0 : Nat) (s0 : Int32) (M : am_M), g_Office_award F 0 r0 s0 M = some (res, M') → AW u_Office_award R_Office_award 0 0 16 [(0, .ref r0)] [.int s0] M (fun r M2 => r = am_rI res ∧ M2 = M')) := by
  intro F
  induction F with
  | zero => exact fun _ _ _  h => (by cases h)
  | succ F ih =>
    have ih0 := ih
    exact s_Office_award_0 ih0
set_option maxHeartbeats 4000000 in
theorem mt_Office_award {M : am_M} {a0 : Nat} {res : Int32 ⊕ Nat} {M' : am_M} (h : f_Office_award M a0 = some (res, M')) : AMet y_Office_award u_Office_award R_Office_award [.ref a0] M (fun r M2 => r = am_rI res ∧ M2 = M') := by
  refine am_met (by decide +kernel) w_Office_award rfl rfl (Nat.le_of_ble_eq_true rfl) ?_
  show AW u_Office_award R_Office_award 0 0 0 [(0, .ref a0)] [] M (fun r M2 => r = am_rI res ∧ M2 = M')
  have ih_0 := (l_Office_award (res := res) (M' := M') 1000000000)
  unfold f_Office_award at h
  unfold e_Office_award at h
  generalize g_Office_award 1000000000 = rc at h ih_0
  refine aw_aload_n d_Office_award_0 rfl rfl ?_
  obtain ⟨t1, e_t1, h⟩ := q_bind h
  refine aw_gtr d_Office_award_1 fl_Office_37 (Or.inl ⟨_, rfl⟩) e_t1 ?_
  obtain ⟨t4, e_t4, h⟩ := q_bind h
  refine aw_gti d_Office_award_4 fl_Office_200 (Or.inl rfl) e_t4 ?_
  refine aw_iconst (v := -1) d_Office_award_7 (by decide) ?_
  refine aw_icmp_eq (tgt := 15) d_Office_award_8 (by decide) (fun hc => ?_) (fun hc => ?_)
  · rw [if_pos hc] at h
    refine aw_iconst (v := 0) d_Office_award_15 (by decide) ?_
    exact aw_pick [0] rfl (ih_0 _ _ _ h)
  · rw [if_neg hc] at h
    refine aw_iconst (v := 1) d_Office_award_11 (by decide) ?_
    refine aw_goto (tgt := 16) d_Office_award_12 (by decide) ?_
    exact aw_pick [0] rfl (ih_0 _ _ _ h)
def y_Listing_list : MethodName := ⟨"CrewOffice$Listing", "list", "()V"⟩
def u_Listing_list : am_U := ("CrewOffice$Listing", "list", prog_5_method_3_code, 1, none, [])
def R_Listing_list : Room := { frames := 26, cells := 0, slots := 0, locals := 938 }
theorem d_Listing_list_0 : decode u_Listing_list.2.2.1 0 = .ok (.aload_n 0, 1) := by decide +kernel
theorem d_Listing_list_1 : decode u_Listing_list.2.2.1 1 = .ok (.iconst 0, 1) := by decide +kernel
theorem d_Listing_list_2 : decode u_Listing_list.2.2.1 2 = .ok (.putfield 17, 3) := by decide +kernel
theorem d_Listing_list_5 : decode u_Listing_list.2.2.1 5 = .ok (.aload_n 0, 1) := by decide +kernel
theorem d_Listing_list_6 : decode u_Listing_list.2.2.1 6 = .ok (.iconst 0, 1) := by decide +kernel
theorem d_Listing_list_7 : decode u_Listing_list.2.2.1 7 = .ok (.putfield 35, 3) := by decide +kernel
theorem d_Listing_list_10 : decode u_Listing_list.2.2.1 10 = .ok (.aload_n 0, 1) := by decide +kernel
theorem d_Listing_list_11 : decode u_Listing_list.2.2.1 11 = .ok (.iconst 0, 1) := by decide +kernel
theorem d_Listing_list_12 : decode u_Listing_list.2.2.1 12 = .ok (.invokevirtual 39, 3) := by decide +kernel
theorem d_Listing_list_15 : decode u_Listing_list.2.2.1 15 = .ok (.aload_n 0, 1) := by decide +kernel
theorem d_Listing_list_16 : decode u_Listing_list.2.2.1 16 = .ok (.getfield 35, 3) := by decide +kernel
theorem d_Listing_list_19 : decode u_Listing_list.2.2.1 19 = .ok (.ifCond .eq 8, 3) := by decide +kernel
theorem d_Listing_list_22 : decode u_Listing_list.2.2.1 22 = .ok (.aload_n 0, 1) := by decide +kernel
theorem d_Listing_list_23 : decode u_Listing_list.2.2.1 23 = .ok (.iconst (-1), 1) := by decide +kernel
theorem d_Listing_list_24 : decode u_Listing_list.2.2.1 24 = .ok (.putfield 17, 3) := by decide +kernel
theorem d_Listing_list_27 : decode u_Listing_list.2.2.1 27 = .ok (.return_, 1) := by decide +kernel
theorem w_Listing_list : am_code y_Listing_list u_Listing_list ∈ am_ws := am_mem (List.mem_of_getElem? (i := 473) (by decide +kernel)) rfl
def e_Listing_list (M : am_M) (a0 : Nat) : Option (Unit × am_M) := (q_pti M a0 6 3 (0 : Int32)).bind (fun M2 => (q_ptz M2 a0 6 4 (0 : Int32)).bind (fun M7 => (q_ob M7 a0 6).bind (fun o12 => (f_Listing_goOn 20 M7 a0 (0 : Int32)).bind (fun p12 => (q_gti p12.2 a0 6 4).bind (fun t16 => if t16 = 0 then (some ((), p12.2)) else ((q_pti p12.2 a0 6 3 (-1 : Int32)).bind (fun M24 => some ((), M24))))))))
def f_Listing_list (M : am_M) (a0 : Nat) : Option (Unit × am_M) := e_Listing_list M a0
set_option maxHeartbeats 4000000 in
theorem mt_Listing_list {M : am_M} {a0 : Nat} {res : Unit} {M' : am_M} (h : f_Listing_list M a0 = some (res, M')) : AMet y_Listing_list u_Listing_list R_Listing_list [.ref a0] M (fun r M2 => r = .inl none ∧ M2 = M') := by
  refine am_met (by decide +kernel) w_Listing_list rfl rfl (Nat.le_of_ble_eq_true rfl) ?_
  show AW u_Listing_list R_Listing_list 0 0 0 [(0, .ref a0)] [] M (fun r M2 => r = .inl none ∧ M2 = M')
  unfold f_Listing_list at h
  unfold e_Listing_list at h
  refine aw_aload_n d_Listing_list_0 rfl rfl ?_
  refine aw_iconst (v := 0) d_Listing_list_1 (by decide) ?_
  obtain ⟨M2, e_M2, h⟩ := q_bind h
  refine aw_pti d_Listing_list_2 fl_Listing_17 rfl rfl e_M2 ?_
  refine aw_aload_n d_Listing_list_5 rfl rfl ?_
  refine aw_iconst (v := 0) d_Listing_list_6 (by decide) ?_
  obtain ⟨M7, e_M7, h⟩ := q_bind h
  refine aw_ptz d_Listing_list_7 fl_Listing_35 rfl rfl e_M7 ?_
  refine aw_aload_n d_Listing_list_10 rfl rfl ?_
  refine aw_iconst (v := 0) d_Listing_list_11 (by decide) ?_
  obtain ⟨o12, e_o12, h⟩ := q_bind h
  obtain ⟨⟨t12, M12⟩, e_t12, h⟩ := q_bind h
  dsimp only at h
  refine aw_cV (v := none) (As := [.int (0 : Int32)]) (rest := []) (st' := []) d_Listing_list_12 kV_Listing_39 (q_ob_spec e_o12).1 (q_ob_spec e_o12).2 ⟨Nat.le_of_ble_eq_true rfl, Nat.le_of_ble_eq_true rfl, Nat.le_of_ble_eq_true rfl, Nat.le_of_ble_eq_true rfl⟩ rfl rfl (Nat.le_of_ble_eq_true rfl) rfl (mt_Listing_goOn 20 e_t12) ?_
  refine aw_aload_n d_Listing_list_15 rfl rfl ?_
  obtain ⟨t16, e_t16, h⟩ := q_bind h
  refine aw_gti d_Listing_list_16 fl_Listing_35 (Or.inr rfl) e_t16 ?_
  refine aw_if_eq (tgt := 27) d_Listing_list_19 (by decide) (fun hc => ?_) (fun hc => ?_)
  · rw [if_pos hc] at h
    cases h
    exact aw_vreturn d_Listing_list_27 rfl (Nat.le_of_ble_eq_true rfl) (Nat.le_of_ble_eq_true rfl) ⟨rfl, rfl⟩
  · rw [if_neg hc] at h
    refine aw_aload_n d_Listing_list_22 rfl rfl ?_
    refine aw_iconst (v := -1) d_Listing_list_23 (by decide) ?_
    obtain ⟨M24, e_M24, h⟩ := q_bind h
    refine aw_pti d_Listing_list_24 fl_Listing_17 rfl rfl e_M24 ?_
    cases h
    exact aw_vreturn d_Listing_list_27 rfl (Nat.le_of_ble_eq_true rfl) (Nat.le_of_ble_eq_true rfl) ⟨rfl, rfl⟩
def y_Office_pairings : MethodName := ⟨"CrewOffice", "pairings", "()I"⟩
def u_Office_pairings : am_U := ("CrewOffice", "pairings", prog_1_method_14_code, 1, (some .int), [])
def R_Office_pairings : Room := { frames := 27, cells := 0, slots := 0, locals := 958 }
theorem d_Office_pairings_0 : decode u_Office_pairings.2.2.1 0 = .ok (.aload_n 0, 1) := by decide +kernel
theorem d_Office_pairings_1 : decode u_Office_pairings.2.2.1 1 = .ok (.invokevirtual 68, 3) := by decide +kernel
theorem d_Office_pairings_4 : decode u_Office_pairings.2.2.1 4 = .ok (.aload_n 0, 1) := by decide +kernel
theorem d_Office_pairings_5 : decode u_Office_pairings.2.2.1 5 = .ok (.getfield 28, 3) := by decide +kernel
theorem d_Office_pairings_8 : decode u_Office_pairings.2.2.1 8 = .ok (.invokevirtual 165, 3) := by decide +kernel
theorem d_Office_pairings_11 : decode u_Office_pairings.2.2.1 11 = .ok (.aload_n 0, 1) := by decide +kernel
theorem d_Office_pairings_12 : decode u_Office_pairings.2.2.1 12 = .ok (.getfield 28, 3) := by decide +kernel
theorem d_Office_pairings_15 : decode u_Office_pairings.2.2.1 15 = .ok (.getfield 168, 3) := by decide +kernel
theorem d_Office_pairings_18 : decode u_Office_pairings.2.2.1 18 = .ok (.ireturn, 1) := by decide +kernel
theorem w_Office_pairings : am_code y_Office_pairings u_Office_pairings ∈ am_ws := am_mem (List.mem_of_getElem? (i := 452) (by decide +kernel)) rfl
def e_Office_pairings (M : am_M) (a0 : Nat) : Option (Int32 × am_M) := (q_ob M a0 9).bind (fun o1 => (f_Office_forgetPairings M a0).bind (fun p1 => (q_gtr p1.2 a0 9 2).bind (fun t5 => (q_ob p1.2 t5 6).bind (fun o8 => (f_Listing_list p1.2 t5).bind (fun p8 => (q_gtr p8.2 a0 9 2).bind (fun t12 => (q_gti p8.2 t12 6 3).bind (fun t15 => some (t15, p8.2))))))))
def f_Office_pairings (M : am_M) (a0 : Nat) : Option (Int32 × am_M) := e_Office_pairings M a0
theorem kV_Office_165 : am_kV "CrewOffice" 165 6 y_Listing_list u_Listing_list 0 := ⟨List.mem_of_getElem? (i := 470) (by decide +kernel), ⟨List.mem_of_getElem? (i := 471) (by decide +kernel), List.mem_of_getElem? (i := 472) (by decide +kernel)⟩, List.mem_of_getElem? (i := 62) (by decide +kernel), w_Listing_list, ⟨⟨by decide +kernel, by decide +kernel⟩, by decide +kernel⟩⟩
set_option maxHeartbeats 4000000 in
theorem mt_Office_pairings {M : am_M} {a0 : Nat} {res : Int32} {M' : am_M} (h : f_Office_pairings M a0 = some (res, M')) : AMet y_Office_pairings u_Office_pairings R_Office_pairings [.ref a0] M (fun r M2 => r = .inl (some (.int res)) ∧ M2 = M') := by
  refine am_met (by decide +kernel) w_Office_pairings rfl rfl (Nat.le_of_ble_eq_true rfl) ?_
  show AW u_Office_pairings R_Office_pairings 0 0 0 [(0, .ref a0)] [] M (fun r M2 => r = .inl (some (.int res)) ∧ M2 = M')
  unfold f_Office_pairings at h
  unfold e_Office_pairings at h
  refine aw_aload_n d_Office_pairings_0 rfl rfl ?_
  obtain ⟨o1, e_o1, h⟩ := q_bind h
  obtain ⟨⟨t1, M1⟩, e_t1, h⟩ := q_bind h
  dsimp only at h
  refine aw_cV (v := none) (As := []) (rest := []) (st' := []) d_Office_pairings_1 kV_Office_68 (q_ob_spec e_o1).1 (q_ob_spec e_o1).2 ⟨Nat.le_of_ble_eq_true rfl, Nat.le_of_ble_eq_true rfl, Nat.le_of_ble_eq_true rfl, Nat.le_of_ble_eq_true rfl⟩ rfl rfl (Nat.le_of_ble_eq_true rfl) rfl (mt_Office_forgetPairings e_t1) ?_
  refine aw_aload_n d_Office_pairings_4 rfl rfl ?_
  obtain ⟨t5, e_t5, h⟩ := q_bind h
  refine aw_gtr d_Office_pairings_5 fl_Office_28 (Or.inl ⟨_, rfl⟩) e_t5 ?_
  obtain ⟨o8, e_o8, h⟩ := q_bind h
  obtain ⟨⟨t8, M8⟩, e_t8, h⟩ := q_bind h
  dsimp only at h
  refine aw_cV (v := none) (As := []) (rest := []) (st' := []) d_Office_pairings_8 kV_Office_165 (q_ob_spec e_o8).1 (q_ob_spec e_o8).2 ⟨Nat.le_of_ble_eq_true rfl, Nat.le_of_ble_eq_true rfl, Nat.le_of_ble_eq_true rfl, Nat.le_of_ble_eq_true rfl⟩ rfl rfl (Nat.le_of_ble_eq_true rfl) rfl (mt_Listing_list e_t8) ?_
  refine aw_aload_n d_Office_pairings_11 rfl rfl ?_
  obtain ⟨t12, e_t12, h⟩ := q_bind h
  refine aw_gtr d_Office_pairings_12 fl_Office_28 (Or.inl ⟨_, rfl⟩) e_t12 ?_
  obtain ⟨t15, e_t15, h⟩ := q_bind h
  refine aw_gti d_Office_pairings_15 fl_Office_168 (Or.inl rfl) e_t15 ?_
  cases h
  exact aw_ireturn d_Office_pairings_18 rfl (Nat.le_of_ble_eq_true rfl) (Nat.le_of_ble_eq_true rfl) ⟨rfl, rfl⟩
