-- Model_flight Model_drop Model_move Model_rule Model_limit Model_crew
def y_Model_flight : MethodName := ⟨"CrewOfficeModel", "flight", "(IIIIII)V"⟩
def u_Model_flight : am_U := ("CrewOfficeModel", "flight", prog_12_method_13_code, 8, none, [])
def R_Model_flight : Room := { frames := 3, cells := 0, slots := 0, locals := 62 }
theorem d_Model_flight_0 : decode u_Model_flight.2.2.1 0 = .ok (.iload_n 1, 1) := by decide +kernel
theorem d_Model_flight_1 : decode u_Model_flight.2.2.1 1 = .ok (.iconst 0, 1) := by decide +kernel
theorem d_Model_flight_2 : decode u_Model_flight.2.2.1 2 = .ok (.bipush 11, 2) := by decide +kernel
theorem d_Model_flight_4 : decode u_Model_flight.2.2.1 4 = .ok (.invokestatic 180, 3) := by decide +kernel
theorem d_Model_flight_7 : decode u_Model_flight.2.2.1 7 = .ok (.ifCond .eq 71, 3) := by decide +kernel
theorem d_Model_flight_10 : decode u_Model_flight.2.2.1 10 = .ok (.iload_n 2, 1) := by decide +kernel
theorem d_Model_flight_11 : decode u_Model_flight.2.2.1 11 = .ok (.iconst 0, 1) := by decide +kernel
theorem d_Model_flight_12 : decode u_Model_flight.2.2.1 12 = .ok (.iconst 4, 1) := by decide +kernel
theorem d_Model_flight_13 : decode u_Model_flight.2.2.1 13 = .ok (.invokestatic 180, 3) := by decide +kernel
theorem d_Model_flight_16 : decode u_Model_flight.2.2.1 16 = .ok (.ifCond .eq 62, 3) := by decide +kernel
theorem d_Model_flight_19 : decode u_Model_flight.2.2.1 19 = .ok (.iload_n 3, 1) := by decide +kernel
theorem d_Model_flight_20 : decode u_Model_flight.2.2.1 20 = .ok (.iconst 0, 1) := by decide +kernel
theorem d_Model_flight_21 : decode u_Model_flight.2.2.1 21 = .ok (.iconst 4, 1) := by decide +kernel
theorem d_Model_flight_22 : decode u_Model_flight.2.2.1 22 = .ok (.invokestatic 180, 3) := by decide +kernel
theorem d_Model_flight_25 : decode u_Model_flight.2.2.1 25 = .ok (.ifCond .eq 53, 3) := by decide +kernel
theorem d_Model_flight_28 : decode u_Model_flight.2.2.1 28 = .ok (.iload 6, 2) := by decide +kernel
theorem d_Model_flight_30 : decode u_Model_flight.2.2.1 30 = .ok (.iconst 0, 1) := by decide +kernel
theorem d_Model_flight_31 : decode u_Model_flight.2.2.1 31 = .ok (.iconst 2, 1) := by decide +kernel
theorem d_Model_flight_32 : decode u_Model_flight.2.2.1 32 = .ok (.invokestatic 180, 3) := by decide +kernel
theorem d_Model_flight_35 : decode u_Model_flight.2.2.1 35 = .ok (.ifCond .eq 43, 3) := by decide +kernel
theorem d_Model_flight_38 : decode u_Model_flight.2.2.1 38 = .ok (.iload_n 2, 1) := by decide +kernel
theorem d_Model_flight_39 : decode u_Model_flight.2.2.1 39 = .ok (.iload_n 3, 1) := by decide +kernel
theorem d_Model_flight_40 : decode u_Model_flight.2.2.1 40 = .ok (.if_icmp .eq 38, 3) := by decide +kernel
theorem d_Model_flight_43 : decode u_Model_flight.2.2.1 43 = .ok (.iload 4, 2) := by decide +kernel
theorem d_Model_flight_45 : decode u_Model_flight.2.2.1 45 = .ok (.ifCond .lt 33, 3) := by decide +kernel
theorem d_Model_flight_48 : decode u_Model_flight.2.2.1 48 = .ok (.iload 5, 2) := by decide +kernel
theorem d_Model_flight_50 : decode u_Model_flight.2.2.1 50 = .ok (.iload 4, 2) := by decide +kernel
theorem d_Model_flight_52 : decode u_Model_flight.2.2.1 52 = .ok (.if_icmp .le 26, 3) := by decide +kernel
theorem d_Model_flight_55 : decode u_Model_flight.2.2.1 55 = .ok (.iload 5, 2) := by decide +kernel
theorem d_Model_flight_57 : decode u_Model_flight.2.2.1 57 = .ok (.sipush 20160, 3) := by decide +kernel
theorem d_Model_flight_60 : decode u_Model_flight.2.2.1 60 = .ok (.if_icmp .gt 18, 3) := by decide +kernel
theorem d_Model_flight_63 : decode u_Model_flight.2.2.1 63 = .ok (.iload 5, 2) := by decide +kernel
theorem d_Model_flight_65 : decode u_Model_flight.2.2.1 65 = .ok (.iload 4, 2) := by decide +kernel
theorem d_Model_flight_67 : decode u_Model_flight.2.2.1 67 = .ok (.isub, 1) := by decide +kernel
theorem d_Model_flight_68 : decode u_Model_flight.2.2.1 68 = .ok (.sipush 900, 3) := by decide +kernel
theorem d_Model_flight_71 : decode u_Model_flight.2.2.1 71 = .ok (.if_icmp .gt 7, 3) := by decide +kernel
theorem d_Model_flight_74 : decode u_Model_flight.2.2.1 74 = .ok (.iconst 1, 1) := by decide +kernel
theorem d_Model_flight_75 : decode u_Model_flight.2.2.1 75 = .ok (.goto 4, 3) := by decide +kernel
theorem d_Model_flight_78 : decode u_Model_flight.2.2.1 78 = .ok (.iconst 0, 1) := by decide +kernel
theorem d_Model_flight_79 : decode u_Model_flight.2.2.1 79 = .ok (.istore 7, 2) := by decide +kernel
theorem d_Model_flight_81 : decode u_Model_flight.2.2.1 81 = .ok (.aload_n 0, 1) := by decide +kernel
theorem d_Model_flight_82 : decode u_Model_flight.2.2.1 82 = .ok (.iload 7, 2) := by decide +kernel
theorem d_Model_flight_84 : decode u_Model_flight.2.2.1 84 = .ok (.ifCond .ne 7, 3) := by decide +kernel
theorem d_Model_flight_87 : decode u_Model_flight.2.2.1 87 = .ok (.iconst 1, 1) := by decide +kernel
theorem d_Model_flight_88 : decode u_Model_flight.2.2.1 88 = .ok (.goto 4, 3) := by decide +kernel
theorem d_Model_flight_91 : decode u_Model_flight.2.2.1 91 = .ok (.iconst 0, 1) := by decide +kernel
theorem d_Model_flight_92 : decode u_Model_flight.2.2.1 92 = .ok (.iconst 1, 1) := by decide +kernel
theorem d_Model_flight_93 : decode u_Model_flight.2.2.1 93 = .ok (.invokevirtual 184, 3) := by decide +kernel
theorem d_Model_flight_96 : decode u_Model_flight.2.2.1 96 = .ok (.ifCond .eq 4, 3) := by decide +kernel
theorem d_Model_flight_99 : decode u_Model_flight.2.2.1 99 = .ok (.return_, 1) := by decide +kernel
theorem d_Model_flight_100 : decode u_Model_flight.2.2.1 100 = .ok (.aload_n 0, 1) := by decide +kernel
theorem d_Model_flight_101 : decode u_Model_flight.2.2.1 101 = .ok (.getfield 27, 3) := by decide +kernel
theorem d_Model_flight_104 : decode u_Model_flight.2.2.1 104 = .ok (.iload_n 1, 1) := by decide +kernel
theorem d_Model_flight_105 : decode u_Model_flight.2.2.1 105 = .ok (.iconst 1, 1) := by decide +kernel
theorem d_Model_flight_106 : decode u_Model_flight.2.2.1 106 = .ok (.bastore, 1) := by decide +kernel
theorem d_Model_flight_107 : decode u_Model_flight.2.2.1 107 = .ok (.aload_n 0, 1) := by decide +kernel
theorem d_Model_flight_108 : decode u_Model_flight.2.2.1 108 = .ok (.getfield 30, 3) := by decide +kernel
theorem d_Model_flight_111 : decode u_Model_flight.2.2.1 111 = .ok (.iload_n 1, 1) := by decide +kernel
theorem d_Model_flight_112 : decode u_Model_flight.2.2.1 112 = .ok (.iload_n 2, 1) := by decide +kernel
theorem d_Model_flight_113 : decode u_Model_flight.2.2.1 113 = .ok (.iastore, 1) := by decide +kernel
theorem d_Model_flight_114 : decode u_Model_flight.2.2.1 114 = .ok (.aload_n 0, 1) := by decide +kernel
theorem d_Model_flight_115 : decode u_Model_flight.2.2.1 115 = .ok (.getfield 33, 3) := by decide +kernel
theorem d_Model_flight_118 : decode u_Model_flight.2.2.1 118 = .ok (.iload_n 1, 1) := by decide +kernel
theorem d_Model_flight_119 : decode u_Model_flight.2.2.1 119 = .ok (.iload_n 3, 1) := by decide +kernel
theorem d_Model_flight_120 : decode u_Model_flight.2.2.1 120 = .ok (.iastore, 1) := by decide +kernel
theorem d_Model_flight_121 : decode u_Model_flight.2.2.1 121 = .ok (.aload_n 0, 1) := by decide +kernel
theorem d_Model_flight_122 : decode u_Model_flight.2.2.1 122 = .ok (.getfield 36, 3) := by decide +kernel
theorem d_Model_flight_125 : decode u_Model_flight.2.2.1 125 = .ok (.iload_n 1, 1) := by decide +kernel
theorem d_Model_flight_126 : decode u_Model_flight.2.2.1 126 = .ok (.iload 4, 2) := by decide +kernel
theorem d_Model_flight_128 : decode u_Model_flight.2.2.1 128 = .ok (.iastore, 1) := by decide +kernel
theorem d_Model_flight_129 : decode u_Model_flight.2.2.1 129 = .ok (.aload_n 0, 1) := by decide +kernel
theorem d_Model_flight_130 : decode u_Model_flight.2.2.1 130 = .ok (.getfield 39, 3) := by decide +kernel
theorem d_Model_flight_133 : decode u_Model_flight.2.2.1 133 = .ok (.iload_n 1, 1) := by decide +kernel
theorem d_Model_flight_134 : decode u_Model_flight.2.2.1 134 = .ok (.iload 5, 2) := by decide +kernel
theorem d_Model_flight_136 : decode u_Model_flight.2.2.1 136 = .ok (.iastore, 1) := by decide +kernel
theorem d_Model_flight_137 : decode u_Model_flight.2.2.1 137 = .ok (.aload_n 0, 1) := by decide +kernel
theorem d_Model_flight_138 : decode u_Model_flight.2.2.1 138 = .ok (.getfield 42, 3) := by decide +kernel
theorem d_Model_flight_141 : decode u_Model_flight.2.2.1 141 = .ok (.iload_n 1, 1) := by decide +kernel
theorem d_Model_flight_142 : decode u_Model_flight.2.2.1 142 = .ok (.iload 6, 2) := by decide +kernel
theorem d_Model_flight_144 : decode u_Model_flight.2.2.1 144 = .ok (.iastore, 1) := by decide +kernel
theorem d_Model_flight_145 : decode u_Model_flight.2.2.1 145 = .ok (.aload_n 0, 1) := by decide +kernel
theorem d_Model_flight_146 : decode u_Model_flight.2.2.1 146 = .ok (.invokevirtual 188, 3) := by decide +kernel
theorem d_Model_flight_149 : decode u_Model_flight.2.2.1 149 = .ok (.return_, 1) := by decide +kernel
theorem w_Model_flight : am_code y_Model_flight u_Model_flight ∈ am_ws := am_mem (List.mem_of_getElem? (i := 1200) (by decide +kernel)) rfl
def a_Model_flight_0 (rc : Nat → Nat → Int32 → Int32 → Int32 → Int32 → Int32 → Int32 → Int32 → Nat → am_M → Option (Unit × am_M)) (r0 : Nat) (x1 : Int32) (x2 : Int32) (x3 : Int32) (x4 : Int32) (x5 : Int32) (x6 : Int32) (s0 : Int32) (sr1 : Nat) (M : am_M) : Option (Unit × am_M) := rc 1 r0 x1 x2 x3 x4 x5 x6 (0 : Int32) 0 M
def a_Model_flight_1 (rc : Nat → Nat → Int32 → Int32 → Int32 → Int32 → Int32 → Int32 → Int32 → Nat → am_M → Option (Unit × am_M)) (r0 : Nat) (x1 : Int32) (x2 : Int32) (x3 : Int32) (x4 : Int32) (x5 : Int32) (x6 : Int32) (s0 : Int32) (sr1 : Nat) (M : am_M) : Option (Unit × am_M) := if s0 = 0 then (rc 2 r0 x1 x2 x3 x4 x5 x6 (1 : Int32) r0 M) else (rc 2 r0 x1 x2 x3 x4 x5 x6 (0 : Int32) r0 M)
def a_Model_flight_2 (rc : Nat → Nat → Int32 → Int32 → Int32 → Int32 → Int32 → Int32 → Int32 → Nat → am_M → Option (Unit × am_M)) (r0 : Nat) (x1 : Int32) (x2 : Int32) (x3 : Int32) (x4 : Int32) (x5 : Int32) (x6 : Int32) (s0 : Int32) (sr1 : Nat) (M : am_M) : Option (Unit × am_M) := (q_ob M sr1 10).bind (fun o93 => (f_Model_fails M sr1 s0 (1 : Int32)).bind (fun p93 => if p93.1 = 0 then ((q_gtr p93.2 r0 10 6).bind (fun t101 => (q_stz p93.2 t101 x1 (1 : Int32)).bind (fun M106 => (q_gtr M106 r0 10 7).bind (fun t108 => (q_sti M106 t108 x1 x2).bind (fun M113 => (q_gtr M113 r0 10 8).bind (fun t115 => (q_sti M113 t115 x1 x3).bind (fun M120 => (q_gtr M120 r0 10 9).bind (fun t122 => (q_sti M120 t122 x1 x4).bind (fun M128 => (q_gtr M128 r0 10 10).bind (fun t130 => (q_sti M128 t130 x1 x5).bind (fun M136 => (q_gtr M136 r0 10 11).bind (fun t138 => (q_sti M136 t138 x1 x6).bind (fun M144 => (q_ob M144 r0 10).bind (fun o146 => (f_Model_loses M144 r0).bind (fun p146 => some ((), p146.2)))))))))))))))) else (some ((), p93.2))))
def g_Model_flight : Nat → Nat → Nat → Int32 → Int32 → Int32 → Int32 → Int32 → Int32 → Int32 → Nat → am_M → Option (Unit × am_M)
  | 0, _, _, _, _, _, _, _, _, _, _, _ => none
  | F + 1, 0, r0, x1, x2, x3, x4, x5, x6, s0, sr1, M => a_Model_flight_0 (g_Model_flight F) r0 x1 x2 x3 x4 x5 x6 s0 sr1 M
  | F + 1, 1, r0, x1, x2, x3, x4, x5, x6, s0, sr1, M => a_Model_flight_1 (g_Model_flight F) r0 x1 x2 x3 x4 x5 x6 s0 sr1 M
  | F + 1, 2, r0, x1, x2, x3, x4, x5, x6, s0, sr1, M => a_Model_flight_2 (g_Model_flight F) r0 x1 x2 x3 x4 x5 x6 s0 sr1 M
  | _ + 1, _ + 3, _, _, _, _, _, _, _, _, _, _ => none
def e_Model_flight (rc : Nat → Nat → Int32 → Int32 → Int32 → Int32 → Int32 → Int32 → Int32 → Nat → am_M → Option (Unit × am_M)) (M : am_M) (a0 : Nat) (a1 : Int32) (a2 : Int32) (a3 : Int32) (a4 : Int32) (a5 : Int32) (a6 : Int32) : Option (Unit × am_M) := (f_Model_within M a1 (0 : Int32) (11 : Int32)).bind (fun t4 => if t4 = 0 then (rc 0 a0 a1 a2 a3 a4 a5 a6 0 0 M) else ((f_Model_within M a2 (0 : Int32) (4 : Int32)).bind (fun t13 => if t13 = 0 then (rc 0 a0 a1 a2 a3 a4 a5 a6 0 0 M) else ((f_Model_within M a3 (0 : Int32) (4 : Int32)).bind (fun t22 => if t22 = 0 then (rc 0 a0 a1 a2 a3 a4 a5 a6 0 0 M) else ((f_Model_within M a6 (0 : Int32) (2 : Int32)).bind (fun t32 => if t32 = 0 then (rc 0 a0 a1 a2 a3 a4 a5 a6 0 0 M) else (if a2 = a3 then (rc 0 a0 a1 a2 a3 a4 a5 a6 0 0 M) else (if a4 < 0 then (rc 0 a0 a1 a2 a3 a4 a5 a6 0 0 M) else (if a5 ≤ a4 then (rc 0 a0 a1 a2 a3 a4 a5 a6 0 0 M) else (if (20160 : Int32) < a5 then (rc 0 a0 a1 a2 a3 a4 a5 a6 0 0 M) else (if (900 : Int32) < (a5 - a4) then (rc 0 a0 a1 a2 a3 a4 a5 a6 0 0 M) else (rc 1 a0 a1 a2 a3 a4 a5 a6 (1 : Int32) 0 M)))))))))))))
def f_Model_flight (M : am_M) (a0 : Nat) (a1 : Int32) (a2 : Int32) (a3 : Int32) (a4 : Int32) (a5 : Int32) (a6 : Int32) : Option (Unit × am_M) := e_Model_flight (g_Model_flight 1000000000) M a0 a1 a2 a3 a4 a5 a6
set_option maxHeartbeats 4000000 in
theorem s_Model_flight_0 {rc : Nat → Nat → Int32 → Int32 → Int32 → Int32 → Int32 → Int32 → Int32 → Nat → am_M → Option (Unit × am_M)} {res : Unit} {M' : am_M} (ih_0 : ∀ (r0 : Nat) (x1 : Int32) (x2 : Int32) (x3 : Int32) (x4 : Int32) (x5 : Int32) (x6 : Int32) (s0 : Int32) (sr1 : Nat) (M : am_M), rc 0 r0 x1 x2 x3 x4 x5 x6 s0 sr1 M = some (res, M') → AW u_Model_flight R_Model_flight 0 0 78 [(0, .ref r0), (1, .int x1), (2, .int x2), (3, .int x3), (4, .int x4), (5, .int x5), (6, .int x6)] [] M (fun r M2 => r = .inl none ∧ M2 = M')) (ih_1 : ∀ (r0 : Nat) (x1 : Int32) (x2 : Int32) (x3 : Int32) (x4 : Int32) (x5 : Int32) (x6 : Int32) (s0 : Int32) (sr1 : Nat) (M : am_M), rc 1 r0 x1 x2 x3 x4 x5 x6 s0 sr1 M = some (res, M') → AW u_Model_flight R_Model_flight 0 0 79 [(0, .ref r0), (1, .int x1), (2, .int x2), (3, .int x3), (4, .int x4), (5, .int x5), (6, .int x6)] [.int s0] M (fun r M2 => r = .inl none ∧ M2 = M')) (ih_2 : ∀ (r0 : Nat) (x1 : Int32) (x2 : Int32) (x3 : Int32) (x4 : Int32) (x5 : Int32) (x6 : Int32) (s0 : Int32) (sr1 : Nat) (M : am_M), rc 2 r0 x1 x2 x3 x4 x5 x6 s0 sr1 M = some (res, M') → AW u_Model_flight R_Model_flight 0 0 92 [(0, .ref r0), (1, .int x1), (2, .int x2), (3, .int x3), (4, .int x4), (5, .int x5), (6, .int x6)] [.int s0, .ref sr1] M (fun r M2 => r = .inl none ∧ M2 = M')) : ∀ (r0 : Nat) (x1 : Int32) (x2 : Int32) (x3 : Int32) (x4 : Int32) (x5 : Int32) (x6 : Int32) (s0 : Int32) (sr1 : Nat) (M : am_M), a_Model_flight_0 rc r0 x1 x2 x3 x4 x5 x6 s0 sr1 M = some (res, M') → AW u_Model_flight R_Model_flight 0 0 78 [(0, .ref r0), (1, .int x1), (2, .int x2), (3, .int x3), (4, .int x4), (5, .int x5), (6, .int x6)] [] M (fun r M2 => r = .inl none ∧ M2 = M') := by
  intro r0 x1 x2 x3 x4 x5 x6 s0 sr1 M h
  unfold a_Model_flight_0 at h
  refine aw_iconst (v := 0) d_Model_flight_78 (by decide) ?_
  exact aw_pick [0, 1, 2, 3, 4, 5, 6] rfl (ih_1 _ _ _ _ _ _ _ _ _ _ h)
set_option maxHeartbeats 4000000 in
theorem s_Model_flight_1 {rc : Nat → Nat → Int32 → Int32 → Int32 → Int32 → Int32 → Int32 → Int32 → Nat → am_M → Option (Unit × am_M)} {res : Unit} {M' : am_M} (ih_0 : ∀ (r0 : Nat) (x1 : Int32) (x2 : Int32) (x3 : Int32) (x4 : Int32) (x5 : Int32) (x6 : Int32) (s0 : Int32) (sr1 : Nat) (M : am_M), rc 0 r0 x1 x2 x3 x4 x5 x6 s0 sr1 M = some (res, M') → AW u_Model_flight R_Model_flight 0 0 78 [(0, .ref r0), (1, .int x1), (2, .int x2), (3, .int x3), (4, .int x4), (5, .int x5), (6, .int x6)] [] M (fun r M2 => r = .inl none ∧ M2 = M')) (ih_1 : ∀ (r0 : Nat) (x1 : Int32) (x2 : Int32) (x3 : Int32) (x4 : Int32) (x5 : Int32) (x6 : Int32) (s0 : Int32) (sr1 : Nat) (M : am_M), rc 1 r0 x1 x2 x3 x4 x5 x6 s0 sr1 M = some (res, M') → AW u_Model_flight R_Model_flight 0 0 79 [(0, .ref r0), (1, .int x1), (2, .int x2), (3, .int x3), (4, .int x4), (5, .int x5), (6, .int x6)] [.int s0] M (fun r M2 => r = .inl none ∧ M2 = M')) (ih_2 : ∀ (r0 : Nat) (x1 : Int32) (x2 : Int32) (x3 : Int32) (x4 : Int32) (x5 : Int32) (x6 : Int32) (s0 : Int32) (sr1 : Nat) (M : am_M), rc 2 r0 x1 x2 x3 x4 x5 x6 s0 sr1 M = some (res, M') → AW u_Model_flight R_Model_flight 0 0 92 [(0, .ref r0), (1, .int x1), (2, .int x2), (3, .int x3), (4, .int x4), (5, .int x5), (6, .int x6)] [.int s0, .ref sr1] M (fun r M2 => r = .inl none ∧ M2 = M')) : ∀ (r0 : Nat) (x1 : Int32) (x2 : Int32) (x3 : Int32) (x4 : Int32) (x5 : Int32) (x6 : Int32) (s0 : Int32) (sr1 : Nat) (M : am_M), a_Model_flight_1 rc r0 x1 x2 x3 x4 x5 x6 s0 sr1 M = some (res, M') → AW u_Model_flight R_Model_flight 0 0 79 [(0, .ref r0), (1, .int x1), (2, .int x2), (3, .int x3), (4, .int x4), (5, .int x5), (6, .int x6)] [.int s0] M (fun r M2 => r = .inl none ∧ M2 = M') := by
  intro r0 x1 x2 x3 x4 x5 x6 s0 sr1 M h
  unfold a_Model_flight_1 at h
  refine aw_istore (ls' := [(7, .int _), (0, .ref _), (1, .int _), (2, .int _), (3, .int _), (4, .int _), (5, .int _), (6, .int _)]) d_Model_flight_79 (Nat.le_of_ble_eq_true rfl) rfl ?_
  refine aw_aload_n d_Model_flight_81 rfl rfl ?_
  refine aw_iload d_Model_flight_82 rfl ?_
  refine aw_if_ne (tgt := 91) d_Model_flight_84 (by decide) (fun hc => ?_) (fun hc => ?_)
  · rw [if_neg hc] at h
    refine aw_iconst (v := 0) d_Model_flight_91 (by decide) ?_
    exact aw_pick [1, 2, 3, 4, 5, 6, 7] rfl (ih_2 _ _ _ _ _ _ _ _ _ _ h)
  · rw [if_pos hc] at h
    refine aw_iconst (v := 1) d_Model_flight_87 (by decide) ?_
    refine aw_goto (tgt := 92) d_Model_flight_88 (by decide) ?_
    exact aw_pick [1, 2, 3, 4, 5, 6, 7] rfl (ih_2 _ _ _ _ _ _ _ _ _ _ h)
set_option maxHeartbeats 4000000 in
theorem s_Model_flight_2 {rc : Nat → Nat → Int32 → Int32 → Int32 → Int32 → Int32 → Int32 → Int32 → Nat → am_M → Option (Unit × am_M)} {res : Unit} {M' : am_M} (ih_0 : ∀ (r0 : Nat) (x1 : Int32) (x2 : Int32) (x3 : Int32) (x4 : Int32) (x5 : Int32) (x6 : Int32) (s0 : Int32) (sr1 : Nat) (M : am_M), rc 0 r0 x1 x2 x3 x4 x5 x6 s0 sr1 M = some (res, M') → AW u_Model_flight R_Model_flight 0 0 78 [(0, .ref r0), (1, .int x1), (2, .int x2), (3, .int x3), (4, .int x4), (5, .int x5), (6, .int x6)] [] M (fun r M2 => r = .inl none ∧ M2 = M')) (ih_1 : ∀ (r0 : Nat) (x1 : Int32) (x2 : Int32) (x3 : Int32) (x4 : Int32) (x5 : Int32) (x6 : Int32) (s0 : Int32) (sr1 : Nat) (M : am_M), rc 1 r0 x1 x2 x3 x4 x5 x6 s0 sr1 M = some (res, M') → AW u_Model_flight R_Model_flight 0 0 79 [(0, .ref r0), (1, .int x1), (2, .int x2), (3, .int x3), (4, .int x4), (5, .int x5), (6, .int x6)] [.int s0] M (fun r M2 => r = .inl none ∧ M2 = M')) (ih_2 : ∀ (r0 : Nat) (x1 : Int32) (x2 : Int32) (x3 : Int32) (x4 : Int32) (x5 : Int32) (x6 : Int32) (s0 : Int32) (sr1 : Nat) (M : am_M), rc 2 r0 x1 x2 x3 x4 x5 x6 s0 sr1 M = some (res, M') → AW u_Model_flight R_Model_flight 0 0 92 [(0, .ref r0), (1, .int x1), (2, .int x2), (3, .int x3), (4, .int x4), (5, .int x5), (6, .int x6)] [.int s0, .ref sr1] M (fun r M2 => r = .inl none ∧ M2 = M')) : ∀ (r0 : Nat) (x1 : Int32) (x2 : Int32) (x3 : Int32) (x4 : Int32) (x5 : Int32) (x6 : Int32) (s0 : Int32) (sr1 : Nat) (M : am_M), a_Model_flight_2 rc r0 x1 x2 x3 x4 x5 x6 s0 sr1 M = some (res, M') → AW u_Model_flight R_Model_flight 0 0 92 [(0, .ref r0), (1, .int x1), (2, .int x2), (3, .int x3), (4, .int x4), (5, .int x5), (6, .int x6)] [.int s0, .ref sr1] M (fun r M2 => r = .inl none ∧ M2 = M') := by
  intro r0 x1 x2 x3 x4 x5 x6 s0 sr1 M h
  unfold a_Model_flight_2 at h
  refine aw_iconst (v := 1) d_Model_flight_92 (by decide) ?_
  obtain ⟨o93, e_o93, h⟩ := q_bind h
  obtain ⟨⟨t93, M93⟩, e_t93, h⟩ := q_bind h
  dsimp only at h
  refine aw_cV (v := (some (.int t93))) (As := [.int s0, .int (1 : Int32)]) (rest := []) (st' := [.int t93]) d_Model_flight_93 kV_Model_184 (q_ob_spec e_o93).1 (q_ob_spec e_o93).2 ⟨Nat.le_of_ble_eq_true rfl, Nat.le_of_ble_eq_true rfl, Nat.le_of_ble_eq_true rfl, Nat.le_of_ble_eq_true rfl⟩ rfl rfl (Nat.le_of_ble_eq_true rfl) rfl (mt_Model_fails e_t93) ?_
  refine aw_if_eq (tgt := 100) d_Model_flight_96 (by decide) (fun hc => ?_) (fun hc => ?_)
  · rw [if_pos hc] at h
    refine aw_aload_n d_Model_flight_100 rfl rfl ?_
    obtain ⟨t101, e_t101, h⟩ := q_bind h
    refine aw_gtr d_Model_flight_101 fl_Model_27 (Or.inr ⟨_, rfl⟩) e_t101 ?_
    refine aw_iload_n d_Model_flight_104 rfl rfl ?_
    refine aw_iconst (v := 1) d_Model_flight_105 (by decide) ?_
    obtain ⟨M106, e_M106, h⟩ := q_bind h
    refine aw_stz d_Model_flight_106 e_M106 ?_
    refine aw_aload_n d_Model_flight_107 rfl rfl ?_
    obtain ⟨t108, e_t108, h⟩ := q_bind h
    refine aw_gtr d_Model_flight_108 fl_Model_30 (Or.inr ⟨_, rfl⟩) e_t108 ?_
    refine aw_iload_n d_Model_flight_111 rfl rfl ?_
    refine aw_iload_n d_Model_flight_112 rfl rfl ?_
    obtain ⟨M113, e_M113, h⟩ := q_bind h
    refine aw_sti d_Model_flight_113 e_M113 ?_
    refine aw_aload_n d_Model_flight_114 rfl rfl ?_
    obtain ⟨t115, e_t115, h⟩ := q_bind h
    refine aw_gtr d_Model_flight_115 fl_Model_33 (Or.inr ⟨_, rfl⟩) e_t115 ?_
    refine aw_iload_n d_Model_flight_118 rfl rfl ?_
    refine aw_iload_n d_Model_flight_119 rfl rfl ?_
    obtain ⟨M120, e_M120, h⟩ := q_bind h
    refine aw_sti d_Model_flight_120 e_M120 ?_
    refine aw_aload_n d_Model_flight_121 rfl rfl ?_
    obtain ⟨t122, e_t122, h⟩ := q_bind h
    refine aw_gtr d_Model_flight_122 fl_Model_36 (Or.inr ⟨_, rfl⟩) e_t122 ?_
    refine aw_iload_n d_Model_flight_125 rfl rfl ?_
    refine aw_iload d_Model_flight_126 rfl ?_
    obtain ⟨M128, e_M128, h⟩ := q_bind h
    refine aw_sti d_Model_flight_128 e_M128 ?_
    refine aw_aload_n d_Model_flight_129 rfl rfl ?_
    obtain ⟨t130, e_t130, h⟩ := q_bind h
    refine aw_gtr d_Model_flight_130 fl_Model_39 (Or.inr ⟨_, rfl⟩) e_t130 ?_
    refine aw_iload_n d_Model_flight_133 rfl rfl ?_
    refine aw_iload d_Model_flight_134 rfl ?_
    obtain ⟨M136, e_M136, h⟩ := q_bind h
    refine aw_sti d_Model_flight_136 e_M136 ?_
    refine aw_aload_n d_Model_flight_137 rfl rfl ?_
    obtain ⟨t138, e_t138, h⟩ := q_bind h
    refine aw_gtr d_Model_flight_138 fl_Model_42 (Or.inr ⟨_, rfl⟩) e_t138 ?_
    refine aw_iload_n d_Model_flight_141 rfl rfl ?_
    refine aw_iload d_Model_flight_142 rfl ?_
    obtain ⟨M144, e_M144, h⟩ := q_bind h
    refine aw_sti d_Model_flight_144 e_M144 ?_
    refine aw_aload_n d_Model_flight_145 rfl rfl ?_
    obtain ⟨o146, e_o146, h⟩ := q_bind h
    obtain ⟨⟨t146, M146⟩, e_t146, h⟩ := q_bind h
    dsimp only at h
    refine aw_cV (v := none) (As := []) (rest := []) (st' := []) d_Model_flight_146 kV_Model_188 (q_ob_spec e_o146).1 (q_ob_spec e_o146).2 ⟨Nat.le_of_ble_eq_true rfl, Nat.le_of_ble_eq_true rfl, Nat.le_of_ble_eq_true rfl, Nat.le_of_ble_eq_true rfl⟩ rfl rfl (Nat.le_of_ble_eq_true rfl) rfl (mt_Model_loses e_t146) ?_
    cases h
    exact aw_vreturn d_Model_flight_149 rfl (Nat.le_of_ble_eq_true rfl) (Nat.le_of_ble_eq_true rfl) ⟨rfl, rfl⟩
  · rw [if_neg hc] at h
    cases h
    exact aw_vreturn d_Model_flight_99 rfl (Nat.le_of_ble_eq_true rfl) (Nat.le_of_ble_eq_true rfl) ⟨rfl, rfl⟩
theorem l_Model_flight {res : Unit} {M' : am_M} : ∀ F : Nat, (∀ (r0 : Nat) (x1 : Int32) (x2 : Int32) (x3 : Int32) (x4 : Int32) (x5 : Int32) (x6 : Int32) (s0 : Int32) (sr1 : Nat) (M : am_M), g_Model_flight F 0 r0 x1 x2 x3 x4 x5 x6 s0 sr1 M = some (res, M') → AW u_Model_flight R_Model_flight 0 0 78 [(0, .ref r0), (1, .int x1), (2, .int x2), (3, .int x3), (4, .int x4), (5, .int x5), (6, .int x6)] [] M (fun r M2 => r = .inl none ∧ M2 = M')) ∧ (∀ (r0 : Nat) (x1 : Int32) (x2 : Int32) (x3 : Int32) (x4 : Int32) (x5 : Int32) (x6 : Int32) (s0 : Int32) (sr1 : Nat) (M : am_M), g_Model_flight F 1 r0 x1 x2 x3 x4 x5 x6 s0 sr1 M = some (res, M') → AW u_Model_flight R_Model_flight 0 0 79 [(0, .ref r0), (1, .int x1), (2, .int x2), (3, .int x3), (4, .int x4), (5, .int x5), (6, .int x6)] [.int s0] M (fun r M2 => r = .inl none ∧ M2 = M')) ∧ (∀ (r0 : Nat) (x1 : Int32) (x2 : Int32) (x3 : Int32) (x4 : Int32) (x5 : Int32) (x6 : Int32) (s0 : Int32) (sr1 : Nat) (M : am_M), g_Model_flight F 2 r0 x1 x2 x3 x4 x5 x6 s0 sr1 M = some (res, M') → AW u_Model_flight R_Model_flight 0 0 92 [(0, .ref r0), (1, .int x1), (2, .int x2), (3, .int x3), (4, .int x4), (5, .int x5), (6, .int x6)] [.int s0, .ref sr1] M (fun r M2 => r = .inl none ∧ M2 = M')) := by
  intro F
  induction F with
  | zero => exact ⟨fun _ _ _ _ _ _ _ _ _ _  h => (by cases h), fun _ _ _ _ _ _ _ _ _ _  h => (by cases h), fun _ _ _ _ _ _ _ _ _ _  h => (by cases h)⟩
  | succ F ih =>
    obtain ⟨ih0, ih1, ih2⟩ := ih
    exact ⟨s_Model_flight_0 ih0 ih1 ih2, s_Model_flight_1 ih0 ih1 ih2, s_Model_flight_2 ih0 ih1 ih2⟩
set_option maxHeartbeats 4000000 in
theorem mt_Model_flight {M : am_M} {a0 : Nat} {a1 : Int32} {a2 : Int32} {a3 : Int32} {a4 : Int32} {a5 : Int32} {a6 : Int32} {res : Unit} {M' : am_M} (h : f_Model_flight M a0 a1 a2 a3 a4 a5 a6 = some (res, M')) : AMet y_Model_flight u_Model_flight R_Model_flight [.ref a0, .int a1, .int a2, .int a3, .int a4, .int a5, .int a6] M (fun r M2 => r = .inl none ∧ M2 = M') := by
  refine am_met (by decide +kernel) w_Model_flight rfl rfl (Nat.le_of_ble_eq_true rfl) ?_
  show AW u_Model_flight R_Model_flight 0 0 0 [(0, .ref a0), (1, .int a1), (2, .int a2), (3, .int a3), (4, .int a4), (5, .int a5), (6, .int a6)] [] M (fun r M2 => r = .inl none ∧ M2 = M')
  have ih_0 := (l_Model_flight (res := res) (M' := M') 1000000000).1
  have ih_1 := (l_Model_flight (res := res) (M' := M') 1000000000).2.1
  have ih_2 := (l_Model_flight (res := res) (M' := M') 1000000000).2.2
  unfold f_Model_flight at h
  unfold e_Model_flight at h
  generalize g_Model_flight 1000000000 = rc at h ih_0 ih_1 ih_2
  refine aw_iload_n d_Model_flight_0 rfl rfl ?_
  refine aw_iconst (v := 0) d_Model_flight_1 (by decide) ?_
  refine aw_bipush (v := 11) d_Model_flight_2 (by decide) ?_
  obtain ⟨t4, e_t4, h⟩ := q_bind h
  refine aw_cS (v := (some (.int t4))) (As := [.int a1, .int (0 : Int32), .int (11 : Int32)]) (rest := []) (st' := [.int t4]) d_Model_flight_4 kS_Model_180 ⟨Nat.le_of_ble_eq_true rfl, Nat.le_of_ble_eq_true rfl, Nat.le_of_ble_eq_true rfl, Nat.le_of_ble_eq_true rfl⟩ rfl rfl (Nat.le_of_ble_eq_true rfl) rfl (mt_Model_within e_t4) ?_
  refine aw_if_eq (tgt := 78) d_Model_flight_7 (by decide) (fun hc => ?_) (fun hc => ?_)
  · rw [if_pos hc] at h
    exact aw_pick [0, 1, 2, 3, 4, 5, 6] rfl (ih_0 _ _ _ _ _ _ _ _ _ _ h)
  · rw [if_neg hc] at h
    refine aw_iload_n d_Model_flight_10 rfl rfl ?_
    refine aw_iconst (v := 0) d_Model_flight_11 (by decide) ?_
    refine aw_iconst (v := 4) d_Model_flight_12 (by decide) ?_
    obtain ⟨t13, e_t13, h⟩ := q_bind h
    refine aw_cS (v := (some (.int t13))) (As := [.int a2, .int (0 : Int32), .int (4 : Int32)]) (rest := []) (st' := [.int t13]) d_Model_flight_13 kS_Model_180 ⟨Nat.le_of_ble_eq_true rfl, Nat.le_of_ble_eq_true rfl, Nat.le_of_ble_eq_true rfl, Nat.le_of_ble_eq_true rfl⟩ rfl rfl (Nat.le_of_ble_eq_true rfl) rfl (mt_Model_within e_t13) ?_
    refine aw_if_eq (tgt := 78) d_Model_flight_16 (by decide) (fun hc => ?_) (fun hc => ?_)
    · rw [if_pos hc] at h
      exact aw_pick [0, 1, 2, 3, 4, 5, 6] rfl (ih_0 _ _ _ _ _ _ _ _ _ _ h)
    · rw [if_neg hc] at h
      refine aw_iload_n d_Model_flight_19 rfl rfl ?_
      refine aw_iconst (v := 0) d_Model_flight_20 (by decide) ?_
      refine aw_iconst (v := 4) d_Model_flight_21 (by decide) ?_
      obtain ⟨t22, e_t22, h⟩ := q_bind h
      refine aw_cS (v := (some (.int t22))) (As := [.int a3, .int (0 : Int32), .int (4 : Int32)]) (rest := []) (st' := [.int t22]) d_Model_flight_22 kS_Model_180 ⟨Nat.le_of_ble_eq_true rfl, Nat.le_of_ble_eq_true rfl, Nat.le_of_ble_eq_true rfl, Nat.le_of_ble_eq_true rfl⟩ rfl rfl (Nat.le_of_ble_eq_true rfl) rfl (mt_Model_within e_t22) ?_
      refine aw_if_eq (tgt := 78) d_Model_flight_25 (by decide) (fun hc => ?_) (fun hc => ?_)
      · rw [if_pos hc] at h
        exact aw_pick [0, 1, 2, 3, 4, 5, 6] rfl (ih_0 _ _ _ _ _ _ _ _ _ _ h)
      · rw [if_neg hc] at h
        refine aw_iload d_Model_flight_28 rfl ?_
        refine aw_iconst (v := 0) d_Model_flight_30 (by decide) ?_
        refine aw_iconst (v := 2) d_Model_flight_31 (by decide) ?_
        obtain ⟨t32, e_t32, h⟩ := q_bind h
        refine aw_cS (v := (some (.int t32))) (As := [.int a6, .int (0 : Int32), .int (2 : Int32)]) (rest := []) (st' := [.int t32]) d_Model_flight_32 kS_Model_180 ⟨Nat.le_of_ble_eq_true rfl, Nat.le_of_ble_eq_true rfl, Nat.le_of_ble_eq_true rfl, Nat.le_of_ble_eq_true rfl⟩ rfl rfl (Nat.le_of_ble_eq_true rfl) rfl (mt_Model_within e_t32) ?_
        refine aw_if_eq (tgt := 78) d_Model_flight_35 (by decide) (fun hc => ?_) (fun hc => ?_)
        · rw [if_pos hc] at h
          exact aw_pick [0, 1, 2, 3, 4, 5, 6] rfl (ih_0 _ _ _ _ _ _ _ _ _ _ h)
        · rw [if_neg hc] at h
          refine aw_iload_n d_Model_flight_38 rfl rfl ?_
          refine aw_iload_n d_Model_flight_39 rfl rfl ?_
          refine aw_icmp_eq (tgt := 78) d_Model_flight_40 (by decide) (fun hc => ?_) (fun hc => ?_)
          · rw [if_pos hc] at h
            exact aw_pick [0, 1, 2, 3, 4, 5, 6] rfl (ih_0 _ _ _ _ _ _ _ _ _ _ h)
          · rw [if_neg hc] at h
            refine aw_iload d_Model_flight_43 rfl ?_
            refine aw_if_lt (tgt := 78) d_Model_flight_45 (by decide) (fun hc => ?_) (fun hc => ?_)
            · rw [if_pos hc] at h
              exact aw_pick [0, 1, 2, 3, 4, 5, 6] rfl (ih_0 _ _ _ _ _ _ _ _ _ _ h)
            · rw [if_neg hc] at h
              refine aw_iload d_Model_flight_48 rfl ?_
              refine aw_iload d_Model_flight_50 rfl ?_
              refine aw_icmp_le (tgt := 78) d_Model_flight_52 (by decide) (fun hc => ?_) (fun hc => ?_)
              · rw [if_pos hc] at h
                exact aw_pick [0, 1, 2, 3, 4, 5, 6] rfl (ih_0 _ _ _ _ _ _ _ _ _ _ h)
              · rw [if_neg hc] at h
                refine aw_iload d_Model_flight_55 rfl ?_
                refine aw_sipush (v := 20160) d_Model_flight_57 (by decide) ?_
                refine aw_icmp_gt (tgt := 78) d_Model_flight_60 (by decide) (fun hc => ?_) (fun hc => ?_)
                · rw [if_pos hc] at h
                  exact aw_pick [0, 1, 2, 3, 4, 5, 6] rfl (ih_0 _ _ _ _ _ _ _ _ _ _ h)
                · rw [if_neg hc] at h
                  refine aw_iload d_Model_flight_63 rfl ?_
                  refine aw_iload d_Model_flight_65 rfl ?_
                  refine aw_isub d_Model_flight_67 ?_
                  refine aw_sipush (v := 900) d_Model_flight_68 (by decide) ?_
                  refine aw_icmp_gt (tgt := 78) d_Model_flight_71 (by decide) (fun hc => ?_) (fun hc => ?_)
                  · rw [if_pos hc] at h
                    exact aw_pick [0, 1, 2, 3, 4, 5, 6] rfl (ih_0 _ _ _ _ _ _ _ _ _ _ h)
                  · rw [if_neg hc] at h
                    refine aw_iconst (v := 1) d_Model_flight_74 (by decide) ?_
                    refine aw_goto (tgt := 79) d_Model_flight_75 (by decide) ?_
                    exact aw_pick [0, 1, 2, 3, 4, 5, 6] rfl (ih_1 _ _ _ _ _ _ _ _ _ _ h)
def y_Model_drop : MethodName := ⟨"CrewOfficeModel", "drop", "(I)Z"⟩
def u_Model_drop : am_U := ("CrewOfficeModel", "drop", prog_12_method_14_code, 2, (some .boolean), [])
def R_Model_drop : Room := { frames := 3, cells := 0, slots := 0, locals := 62 }
theorem d_Model_drop_0 : decode u_Model_drop.2.2.1 0 = .ok (.aload_n 0, 1) := by decide +kernel
theorem d_Model_drop_1 : decode u_Model_drop.2.2.1 1 = .ok (.iload_n 1, 1) := by decide +kernel
theorem d_Model_drop_2 : decode u_Model_drop.2.2.1 2 = .ok (.iconst 0, 1) := by decide +kernel
theorem d_Model_drop_3 : decode u_Model_drop.2.2.1 3 = .ok (.bipush 11, 2) := by decide +kernel
theorem d_Model_drop_5 : decode u_Model_drop.2.2.1 5 = .ok (.invokestatic 180, 3) := by decide +kernel
theorem d_Model_drop_8 : decode u_Model_drop.2.2.1 8 = .ok (.ifCond .ne 7, 3) := by decide +kernel
theorem d_Model_drop_11 : decode u_Model_drop.2.2.1 11 = .ok (.iconst 1, 1) := by decide +kernel
theorem d_Model_drop_12 : decode u_Model_drop.2.2.1 12 = .ok (.goto 4, 3) := by decide +kernel
theorem d_Model_drop_15 : decode u_Model_drop.2.2.1 15 = .ok (.iconst 0, 1) := by decide +kernel
theorem d_Model_drop_16 : decode u_Model_drop.2.2.1 16 = .ok (.iconst 1, 1) := by decide +kernel
theorem d_Model_drop_17 : decode u_Model_drop.2.2.1 17 = .ok (.invokevirtual 184, 3) := by decide +kernel
theorem d_Model_drop_20 : decode u_Model_drop.2.2.1 20 = .ok (.ifCond .ne 12, 3) := by decide +kernel
theorem d_Model_drop_23 : decode u_Model_drop.2.2.1 23 = .ok (.aload_n 0, 1) := by decide +kernel
theorem d_Model_drop_24 : decode u_Model_drop.2.2.1 24 = .ok (.getfield 27, 3) := by decide +kernel
theorem d_Model_drop_27 : decode u_Model_drop.2.2.1 27 = .ok (.iload_n 1, 1) := by decide +kernel
theorem d_Model_drop_28 : decode u_Model_drop.2.2.1 28 = .ok (.baload, 1) := by decide +kernel
theorem d_Model_drop_29 : decode u_Model_drop.2.2.1 29 = .ok (.ifCond .ne 5, 3) := by decide +kernel
theorem d_Model_drop_32 : decode u_Model_drop.2.2.1 32 = .ok (.iconst 0, 1) := by decide +kernel
theorem d_Model_drop_33 : decode u_Model_drop.2.2.1 33 = .ok (.ireturn, 1) := by decide +kernel
theorem d_Model_drop_34 : decode u_Model_drop.2.2.1 34 = .ok (.aload_n 0, 1) := by decide +kernel
theorem d_Model_drop_35 : decode u_Model_drop.2.2.1 35 = .ok (.getfield 27, 3) := by decide +kernel
theorem d_Model_drop_38 : decode u_Model_drop.2.2.1 38 = .ok (.iload_n 1, 1) := by decide +kernel
theorem d_Model_drop_39 : decode u_Model_drop.2.2.1 39 = .ok (.iconst 0, 1) := by decide +kernel
theorem d_Model_drop_40 : decode u_Model_drop.2.2.1 40 = .ok (.bastore, 1) := by decide +kernel
theorem d_Model_drop_41 : decode u_Model_drop.2.2.1 41 = .ok (.aload_n 0, 1) := by decide +kernel
theorem d_Model_drop_42 : decode u_Model_drop.2.2.1 42 = .ok (.invokevirtual 188, 3) := by decide +kernel
theorem d_Model_drop_45 : decode u_Model_drop.2.2.1 45 = .ok (.iconst 1, 1) := by decide +kernel
theorem d_Model_drop_46 : decode u_Model_drop.2.2.1 46 = .ok (.ireturn, 1) := by decide +kernel
theorem w_Model_drop : am_code y_Model_drop u_Model_drop ∈ am_ws := am_mem (List.mem_of_getElem? (i := 1204) (by decide +kernel)) rfl
def a_Model_drop_0 (rc : Nat → Nat → Int32 → Int32 → Nat → am_M → Option (Int32 × am_M)) (r0 : Nat) (x1 : Int32) (s0 : Int32) (sr1 : Nat) (M : am_M) : Option (Int32 × am_M) := (q_ob M sr1 10).bind (fun o17 => (f_Model_fails M sr1 s0 (1 : Int32)).bind (fun p17 => if p17.1 = 0 then ((q_gtr p17.2 r0 10 6).bind (fun t24 => (q_ldz p17.2 t24 x1).bind (fun t28 => if t28 = 0 then (some ((0 : Int32), p17.2)) else ((q_gtr p17.2 r0 10 6).bind (fun t35 => (q_stz p17.2 t35 x1 (0 : Int32)).bind (fun M40 => (q_ob M40 r0 10).bind (fun o42 => (f_Model_loses M40 r0).bind (fun p42 => some ((1 : Int32), p42.2))))))))) else (some ((0 : Int32), p17.2))))
def g_Model_drop : Nat → Nat → Nat → Int32 → Int32 → Nat → am_M → Option (Int32 × am_M)
  | 0, _, _, _, _, _, _ => none
  | F + 1, 0, r0, x1, s0, sr1, M => a_Model_drop_0 (g_Model_drop F) r0 x1 s0 sr1 M
  | _ + 1, _ + 1, _, _, _, _, _ => none
def e_Model_drop (rc : Nat → Nat → Int32 → Int32 → Nat → am_M → Option (Int32 × am_M)) (M : am_M) (a0 : Nat) (a1 : Int32) : Option (Int32 × am_M) := (f_Model_within M a1 (0 : Int32) (11 : Int32)).bind (fun t5 => if t5 = 0 then (rc 0 a0 a1 (1 : Int32) a0 M) else (rc 0 a0 a1 (0 : Int32) a0 M))
def f_Model_drop (M : am_M) (a0 : Nat) (a1 : Int32) : Option (Int32 × am_M) := e_Model_drop (g_Model_drop 1000000000) M a0 a1
set_option maxHeartbeats 4000000 in
theorem s_Model_drop_0 {rc : Nat → Nat → Int32 → Int32 → Nat → am_M → Option (Int32 × am_M)} {res : Int32} {M' : am_M} (ih_0 : ∀ (r0 : Nat) (x1 : Int32) (s0 : Int32) (sr1 : Nat) (M : am_M), rc 0 r0 x1 s0 sr1 M = some (res, M') → AW u_Model_drop R_Model_drop 0 0 16 [(0, .ref r0), (1, .int x1)] [.int s0, .ref sr1] M (fun r M2 => r = .inl (some (.int res)) ∧ M2 = M')) : ∀ (r0 : Nat) (x1 : Int32) (s0 : Int32) (sr1 : Nat) (M : am_M), a_Model_drop_0 rc r0 x1 s0 sr1 M = some (res, M') → AW u_Model_drop R_Model_drop 0 0 16 [(0, .ref r0), (1, .int x1)] [.int s0, .ref sr1] M (fun r M2 => r = .inl (some (.int res)) ∧ M2 = M') := by
  intro r0 x1 s0 sr1 M h
  unfold a_Model_drop_0 at h
  refine aw_iconst (v := 1) d_Model_drop_16 (by decide) ?_
  obtain ⟨o17, e_o17, h⟩ := q_bind h
  obtain ⟨⟨t17, M17⟩, e_t17, h⟩ := q_bind h
  dsimp only at h
  refine aw_cV (v := (some (.int t17))) (As := [.int s0, .int (1 : Int32)]) (rest := []) (st' := [.int t17]) d_Model_drop_17 kV_Model_184 (q_ob_spec e_o17).1 (q_ob_spec e_o17).2 ⟨Nat.le_of_ble_eq_true rfl, Nat.le_of_ble_eq_true rfl, Nat.le_of_ble_eq_true rfl, Nat.le_of_ble_eq_true rfl⟩ rfl rfl (Nat.le_of_ble_eq_true rfl) rfl (mt_Model_fails e_t17) ?_
  refine aw_if_ne (tgt := 32) d_Model_drop_20 (by decide) (fun hc => ?_) (fun hc => ?_)
  · rw [if_neg hc] at h
    refine aw_iconst (v := 0) d_Model_drop_32 (by decide) ?_
    cases h
    exact aw_zreturn d_Model_drop_33 rfl (by decide) (Nat.le_of_ble_eq_true rfl) (Nat.le_of_ble_eq_true rfl) ⟨rfl, rfl⟩
  · rw [if_pos hc] at h
    refine aw_aload_n d_Model_drop_23 rfl rfl ?_
    obtain ⟨t24, e_t24, h⟩ := q_bind h
    refine aw_gtr d_Model_drop_24 fl_Model_27 (Or.inr ⟨_, rfl⟩) e_t24 ?_
    refine aw_iload_n d_Model_drop_27 rfl rfl ?_
    obtain ⟨t28, e_t28, h⟩ := q_bind h
    refine aw_ldz d_Model_drop_28 e_t28 ?_
    refine aw_if_ne (tgt := 34) d_Model_drop_29 (by decide) (fun hc => ?_) (fun hc => ?_)
    · rw [if_neg hc] at h
      refine aw_aload_n d_Model_drop_34 rfl rfl ?_
      obtain ⟨t35, e_t35, h⟩ := q_bind h
      refine aw_gtr d_Model_drop_35 fl_Model_27 (Or.inr ⟨_, rfl⟩) e_t35 ?_
      refine aw_iload_n d_Model_drop_38 rfl rfl ?_
      refine aw_iconst (v := 0) d_Model_drop_39 (by decide) ?_
      obtain ⟨M40, e_M40, h⟩ := q_bind h
      refine aw_stz d_Model_drop_40 e_M40 ?_
      refine aw_aload_n d_Model_drop_41 rfl rfl ?_
      obtain ⟨o42, e_o42, h⟩ := q_bind h
      obtain ⟨⟨t42, M42⟩, e_t42, h⟩ := q_bind h
      dsimp only at h
      refine aw_cV (v := none) (As := []) (rest := []) (st' := []) d_Model_drop_42 kV_Model_188 (q_ob_spec e_o42).1 (q_ob_spec e_o42).2 ⟨Nat.le_of_ble_eq_true rfl, Nat.le_of_ble_eq_true rfl, Nat.le_of_ble_eq_true rfl, Nat.le_of_ble_eq_true rfl⟩ rfl rfl (Nat.le_of_ble_eq_true rfl) rfl (mt_Model_loses e_t42) ?_
      refine aw_iconst (v := 1) d_Model_drop_45 (by decide) ?_
      cases h
      exact aw_zreturn d_Model_drop_46 rfl (by decide) (Nat.le_of_ble_eq_true rfl) (Nat.le_of_ble_eq_true rfl) ⟨rfl, rfl⟩
    · rw [if_pos hc] at h
      refine aw_iconst (v := 0) d_Model_drop_32 (by decide) ?_
      cases h
      exact aw_zreturn d_Model_drop_33 rfl (by decide) (Nat.le_of_ble_eq_true rfl) (Nat.le_of_ble_eq_true rfl) ⟨rfl, rfl⟩
theorem l_Model_drop {res : Int32} {M' : am_M} : ∀ F : Nat, (∀ (r0 : Nat) (x1 : Int32) (s0 : Int32) (sr1 : Nat) (M : am_M), g_Model_drop F 0 r0 x1 s0 sr1 M = some (res, M') → AW u_Model_drop R_Model_drop 0 0 16 [(0, .ref r0), (1, .int x1)] [.int s0, .ref sr1] M (fun r M2 => r = .inl (some (.int res)) ∧ M2 = M')) := by
  intro F
  induction F with
  | zero => exact fun _ _ _ _ _  h => (by cases h)
  | succ F ih =>
    have ih0 := ih
    exact s_Model_drop_0 ih0
set_option maxHeartbeats 4000000 in
theorem mt_Model_drop {M : am_M} {a0 : Nat} {a1 : Int32} {res : Int32} {M' : am_M} (h : f_Model_drop M a0 a1 = some (res, M')) : AMet y_Model_drop u_Model_drop R_Model_drop [.ref a0, .int a1] M (fun r M2 => r = .inl (some (.int res)) ∧ M2 = M') := by
  refine am_met (by decide +kernel) w_Model_drop rfl rfl (Nat.le_of_ble_eq_true rfl) ?_
  show AW u_Model_drop R_Model_drop 0 0 0 [(0, .ref a0), (1, .int a1)] [] M (fun r M2 => r = .inl (some (.int res)) ∧ M2 = M')
  have ih_0 := (l_Model_drop (res := res) (M' := M') 1000000000)
  unfold f_Model_drop at h
  unfold e_Model_drop at h
  generalize g_Model_drop 1000000000 = rc at h ih_0
  refine aw_aload_n d_Model_drop_0 rfl rfl ?_
  refine aw_iload_n d_Model_drop_1 rfl rfl ?_
  refine aw_iconst (v := 0) d_Model_drop_2 (by decide) ?_
  refine aw_bipush (v := 11) d_Model_drop_3 (by decide) ?_
  obtain ⟨t5, e_t5, h⟩ := q_bind h
  refine aw_cS (v := (some (.int t5))) (As := [.int a1, .int (0 : Int32), .int (11 : Int32)]) (rest := [.ref a0]) (st' := [.int t5, .ref a0]) d_Model_drop_5 kS_Model_180 ⟨Nat.le_of_ble_eq_true rfl, Nat.le_of_ble_eq_true rfl, Nat.le_of_ble_eq_true rfl, Nat.le_of_ble_eq_true rfl⟩ rfl rfl (Nat.le_of_ble_eq_true rfl) rfl (mt_Model_within e_t5) ?_
  refine aw_if_ne (tgt := 15) d_Model_drop_8 (by decide) (fun hc => ?_) (fun hc => ?_)
  · rw [if_neg hc] at h
    refine aw_iconst (v := 0) d_Model_drop_15 (by decide) ?_
    exact aw_pick [0, 1] rfl (ih_0 _ _ _ _ _ h)
  · rw [if_pos hc] at h
    refine aw_iconst (v := 1) d_Model_drop_11 (by decide) ?_
    refine aw_goto (tgt := 16) d_Model_drop_12 (by decide) ?_
    exact aw_pick [0, 1] rfl (ih_0 _ _ _ _ _ h)
def y_Model_move : MethodName := ⟨"CrewOfficeModel", "move", "(II)Z"⟩
def u_Model_move : am_U := ("CrewOfficeModel", "move", prog_12_method_15_code, 7, (some .boolean), [])
def R_Model_move : Room := { frames := 3, cells := 0, slots := 0, locals := 62 }
theorem d_Model_move_0 : decode u_Model_move.2.2.1 0 = .ok (.aload_n 0, 1) := by decide +kernel
theorem d_Model_move_1 : decode u_Model_move.2.2.1 1 = .ok (.iload_n 1, 1) := by decide +kernel
theorem d_Model_move_2 : decode u_Model_move.2.2.1 2 = .ok (.iconst 0, 1) := by decide +kernel
theorem d_Model_move_3 : decode u_Model_move.2.2.1 3 = .ok (.bipush 11, 2) := by decide +kernel
theorem d_Model_move_5 : decode u_Model_move.2.2.1 5 = .ok (.invokestatic 180, 3) := by decide +kernel
theorem d_Model_move_8 : decode u_Model_move.2.2.1 8 = .ok (.ifCond .ne 7, 3) := by decide +kernel
theorem d_Model_move_11 : decode u_Model_move.2.2.1 11 = .ok (.iconst 1, 1) := by decide +kernel
theorem d_Model_move_12 : decode u_Model_move.2.2.1 12 = .ok (.goto 4, 3) := by decide +kernel
theorem d_Model_move_15 : decode u_Model_move.2.2.1 15 = .ok (.iconst 0, 1) := by decide +kernel
theorem d_Model_move_16 : decode u_Model_move.2.2.1 16 = .ok (.iconst 1, 1) := by decide +kernel
theorem d_Model_move_17 : decode u_Model_move.2.2.1 17 = .ok (.invokevirtual 184, 3) := by decide +kernel
theorem d_Model_move_20 : decode u_Model_move.2.2.1 20 = .ok (.ifCond .ne 12, 3) := by decide +kernel
theorem d_Model_move_23 : decode u_Model_move.2.2.1 23 = .ok (.aload_n 0, 1) := by decide +kernel
theorem d_Model_move_24 : decode u_Model_move.2.2.1 24 = .ok (.getfield 27, 3) := by decide +kernel
theorem d_Model_move_27 : decode u_Model_move.2.2.1 27 = .ok (.iload_n 1, 1) := by decide +kernel
theorem d_Model_move_28 : decode u_Model_move.2.2.1 28 = .ok (.baload, 1) := by decide +kernel
theorem d_Model_move_29 : decode u_Model_move.2.2.1 29 = .ok (.ifCond .ne 5, 3) := by decide +kernel
theorem d_Model_move_32 : decode u_Model_move.2.2.1 32 = .ok (.iconst 0, 1) := by decide +kernel
theorem d_Model_move_33 : decode u_Model_move.2.2.1 33 = .ok (.ireturn, 1) := by decide +kernel
theorem d_Model_move_34 : decode u_Model_move.2.2.1 34 = .ok (.aload_n 0, 1) := by decide +kernel
theorem d_Model_move_35 : decode u_Model_move.2.2.1 35 = .ok (.getfield 36, 3) := by decide +kernel
theorem d_Model_move_38 : decode u_Model_move.2.2.1 38 = .ok (.iload_n 1, 1) := by decide +kernel
theorem d_Model_move_39 : decode u_Model_move.2.2.1 39 = .ok (.iaload, 1) := by decide +kernel
theorem d_Model_move_40 : decode u_Model_move.2.2.1 40 = .ok (.i2l, 1) := by decide +kernel
theorem d_Model_move_41 : decode u_Model_move.2.2.1 41 = .ok (.iload_n 2, 1) := by decide +kernel
theorem d_Model_move_42 : decode u_Model_move.2.2.1 42 = .ok (.i2l, 1) := by decide +kernel
theorem d_Model_move_43 : decode u_Model_move.2.2.1 43 = .ok (.ladd, 1) := by decide +kernel
theorem d_Model_move_44 : decode u_Model_move.2.2.1 44 = .ok (.lstore_n 3, 1) := by decide +kernel
theorem d_Model_move_45 : decode u_Model_move.2.2.1 45 = .ok (.aload_n 0, 1) := by decide +kernel
theorem d_Model_move_46 : decode u_Model_move.2.2.1 46 = .ok (.getfield 39, 3) := by decide +kernel
theorem d_Model_move_49 : decode u_Model_move.2.2.1 49 = .ok (.iload_n 1, 1) := by decide +kernel
theorem d_Model_move_50 : decode u_Model_move.2.2.1 50 = .ok (.iaload, 1) := by decide +kernel
theorem d_Model_move_51 : decode u_Model_move.2.2.1 51 = .ok (.i2l, 1) := by decide +kernel
theorem d_Model_move_52 : decode u_Model_move.2.2.1 52 = .ok (.iload_n 2, 1) := by decide +kernel
theorem d_Model_move_53 : decode u_Model_move.2.2.1 53 = .ok (.i2l, 1) := by decide +kernel
theorem d_Model_move_54 : decode u_Model_move.2.2.1 54 = .ok (.ladd, 1) := by decide +kernel
theorem d_Model_move_55 : decode u_Model_move.2.2.1 55 = .ok (.lstore 5, 2) := by decide +kernel
theorem d_Model_move_57 : decode u_Model_move.2.2.1 57 = .ok (.lload_n 3, 1) := by decide +kernel
theorem d_Model_move_58 : decode u_Model_move.2.2.1 58 = .ok (.lconst 0, 1) := by decide +kernel
theorem d_Model_move_59 : decode u_Model_move.2.2.1 59 = .ok (.lcmp, 1) := by decide +kernel
theorem d_Model_move_60 : decode u_Model_move.2.2.1 60 = .ok (.ifCond .lt 12, 3) := by decide +kernel
theorem d_Model_move_63 : decode u_Model_move.2.2.1 63 = .ok (.lload 5, 2) := by decide +kernel
theorem d_Model_move_65 : decode u_Model_move.2.2.1 65 = .ok (.ldc2_w 191, 3) := by decide +kernel
theorem d_Model_move_68 : decode u_Model_move.2.2.1 68 = .ok (.lcmp, 1) := by decide +kernel
theorem d_Model_move_69 : decode u_Model_move.2.2.1 69 = .ok (.ifCond .le 5, 3) := by decide +kernel
theorem d_Model_move_72 : decode u_Model_move.2.2.1 72 = .ok (.iconst 0, 1) := by decide +kernel
theorem d_Model_move_73 : decode u_Model_move.2.2.1 73 = .ok (.ireturn, 1) := by decide +kernel
theorem d_Model_move_74 : decode u_Model_move.2.2.1 74 = .ok (.aload_n 0, 1) := by decide +kernel
theorem d_Model_move_75 : decode u_Model_move.2.2.1 75 = .ok (.getfield 36, 3) := by decide +kernel
theorem d_Model_move_78 : decode u_Model_move.2.2.1 78 = .ok (.iload_n 1, 1) := by decide +kernel
theorem d_Model_move_79 : decode u_Model_move.2.2.1 79 = .ok (.lload_n 3, 1) := by decide +kernel
theorem d_Model_move_80 : decode u_Model_move.2.2.1 80 = .ok (.l2i, 1) := by decide +kernel
theorem d_Model_move_81 : decode u_Model_move.2.2.1 81 = .ok (.iastore, 1) := by decide +kernel
theorem d_Model_move_82 : decode u_Model_move.2.2.1 82 = .ok (.aload_n 0, 1) := by decide +kernel
theorem d_Model_move_83 : decode u_Model_move.2.2.1 83 = .ok (.getfield 39, 3) := by decide +kernel
theorem d_Model_move_86 : decode u_Model_move.2.2.1 86 = .ok (.iload_n 1, 1) := by decide +kernel
theorem d_Model_move_87 : decode u_Model_move.2.2.1 87 = .ok (.lload 5, 2) := by decide +kernel
theorem d_Model_move_89 : decode u_Model_move.2.2.1 89 = .ok (.l2i, 1) := by decide +kernel
theorem d_Model_move_90 : decode u_Model_move.2.2.1 90 = .ok (.iastore, 1) := by decide +kernel
theorem d_Model_move_91 : decode u_Model_move.2.2.1 91 = .ok (.aload_n 0, 1) := by decide +kernel
theorem d_Model_move_92 : decode u_Model_move.2.2.1 92 = .ok (.invokevirtual 188, 3) := by decide +kernel
theorem d_Model_move_95 : decode u_Model_move.2.2.1 95 = .ok (.iconst 1, 1) := by decide +kernel
theorem d_Model_move_96 : decode u_Model_move.2.2.1 96 = .ok (.ireturn, 1) := by decide +kernel
theorem w_Model_move : am_code y_Model_move u_Model_move ∈ am_ws := am_mem (List.mem_of_getElem? (i := 1208) (by decide +kernel)) rfl
def a_Model_move_0 (rc : Nat → Nat → Int32 → Int32 → Int32 → Nat → am_M → Option (Int32 × am_M)) (r0 : Nat) (x1 : Int32) (x2 : Int32) (s0 : Int32) (sr1 : Nat) (M : am_M) : Option (Int32 × am_M) := (q_ob M sr1 10).bind (fun o17 => (f_Model_fails M sr1 s0 (1 : Int32)).bind (fun p17 => if p17.1 = 0 then ((q_gtr p17.2 r0 10 6).bind (fun t24 => (q_ldz p17.2 t24 x1).bind (fun t28 => if t28 = 0 then (some ((0 : Int32), p17.2)) else ((q_gtr p17.2 r0 10 9).bind (fun t35 => (q_ldi p17.2 t35 x1).bind (fun t39 => (q_gtr p17.2 r0 10 10).bind (fun t46 => (q_ldi p17.2 t46 x1).bind (fun t50 => if (lg_cmp (((t39).toInt64) + ((x2).toInt64)) (0 : Int64)) < 0 then (some ((0 : Int32), p17.2)) else (if (lg_cmp (((t50).toInt64) + ((x2).toInt64)) (20160 : Int64)) ≤ 0 then ((q_gtr p17.2 r0 10 9).bind (fun t75 => (q_sti p17.2 t75 x1 (((((t39).toInt64) + ((x2).toInt64))).toInt32)).bind (fun M81 => (q_gtr M81 r0 10 10).bind (fun t83 => (q_sti M81 t83 x1 (((((t50).toInt64) + ((x2).toInt64))).toInt32)).bind (fun M90 => (q_ob M90 r0 10).bind (fun o92 => (f_Model_loses M90 r0).bind (fun p92 => some ((1 : Int32), p92.2)))))))) else (some ((0 : Int32), p17.2))))))))))) else (some ((0 : Int32), p17.2))))
def g_Model_move : Nat → Nat → Nat → Int32 → Int32 → Int32 → Nat → am_M → Option (Int32 × am_M)
  | 0, _, _, _, _, _, _, _ => none
  | F + 1, 0, r0, x1, x2, s0, sr1, M => a_Model_move_0 (g_Model_move F) r0 x1 x2 s0 sr1 M
  | _ + 1, _ + 1, _, _, _, _, _, _ => none
def e_Model_move (rc : Nat → Nat → Int32 → Int32 → Int32 → Nat → am_M → Option (Int32 × am_M)) (M : am_M) (a0 : Nat) (a1 : Int32) (a2 : Int32) : Option (Int32 × am_M) := (f_Model_within M a1 (0 : Int32) (11 : Int32)).bind (fun t5 => if t5 = 0 then (rc 0 a0 a1 a2 (1 : Int32) a0 M) else (rc 0 a0 a1 a2 (0 : Int32) a0 M))
def f_Model_move (M : am_M) (a0 : Nat) (a1 : Int32) (a2 : Int32) : Option (Int32 × am_M) := e_Model_move (g_Model_move 1000000000) M a0 a1 a2
set_option maxHeartbeats 4000000 in
theorem s_Model_move_0 {rc : Nat → Nat → Int32 → Int32 → Int32 → Nat → am_M → Option (Int32 × am_M)} {res : Int32} {M' : am_M} (ih_0 : ∀ (r0 : Nat) (x1 : Int32) (x2 : Int32) (s0 : Int32) (sr1 : Nat) (M : am_M), rc 0 r0 x1 x2 s0 sr1 M = some (res, M') → AW u_Model_move R_Model_move 0 0 16 [(0, .ref r0), (1, .int x1), (2, .int x2)] [.int s0, .ref sr1] M (fun r M2 => r = .inl (some (.int res)) ∧ M2 = M')) : ∀ (r0 : Nat) (x1 : Int32) (x2 : Int32) (s0 : Int32) (sr1 : Nat) (M : am_M), a_Model_move_0 rc r0 x1 x2 s0 sr1 M = some (res, M') → AW u_Model_move R_Model_move 0 0 16 [(0, .ref r0), (1, .int x1), (2, .int x2)] [.int s0, .ref sr1] M (fun r M2 => r = .inl (some (.int res)) ∧ M2 = M') := by
  intro r0 x1 x2 s0 sr1 M h
  unfold a_Model_move_0 at h
  refine aw_iconst (v := 1) d_Model_move_16 (by decide) ?_
  obtain ⟨o17, e_o17, h⟩ := q_bind h
  obtain ⟨⟨t17, M17⟩, e_t17, h⟩ := q_bind h
  dsimp only at h
  refine aw_cV (v := (some (.int t17))) (As := [.int s0, .int (1 : Int32)]) (rest := []) (st' := [.int t17]) d_Model_move_17 kV_Model_184 (q_ob_spec e_o17).1 (q_ob_spec e_o17).2 ⟨Nat.le_of_ble_eq_true rfl, Nat.le_of_ble_eq_true rfl, Nat.le_of_ble_eq_true rfl, Nat.le_of_ble_eq_true rfl⟩ rfl rfl (Nat.le_of_ble_eq_true rfl) rfl (mt_Model_fails e_t17) ?_
  refine aw_if_ne (tgt := 32) d_Model_move_20 (by decide) (fun hc => ?_) (fun hc => ?_)
  · rw [if_neg hc] at h
    refine aw_iconst (v := 0) d_Model_move_32 (by decide) ?_
    cases h
    exact aw_zreturn d_Model_move_33 rfl (by decide) (Nat.le_of_ble_eq_true rfl) (Nat.le_of_ble_eq_true rfl) ⟨rfl, rfl⟩
  · rw [if_pos hc] at h
    refine aw_aload_n d_Model_move_23 rfl rfl ?_
    obtain ⟨t24, e_t24, h⟩ := q_bind h
    refine aw_gtr d_Model_move_24 fl_Model_27 (Or.inr ⟨_, rfl⟩) e_t24 ?_
    refine aw_iload_n d_Model_move_27 rfl rfl ?_
    obtain ⟨t28, e_t28, h⟩ := q_bind h
    refine aw_ldz d_Model_move_28 e_t28 ?_
    refine aw_if_ne (tgt := 34) d_Model_move_29 (by decide) (fun hc => ?_) (fun hc => ?_)
    · rw [if_neg hc] at h
      refine aw_aload_n d_Model_move_34 rfl rfl ?_
      obtain ⟨t35, e_t35, h⟩ := q_bind h
      refine aw_gtr d_Model_move_35 fl_Model_36 (Or.inr ⟨_, rfl⟩) e_t35 ?_
      refine aw_iload_n d_Model_move_38 rfl rfl ?_
      obtain ⟨t39, e_t39, h⟩ := q_bind h
      refine aw_ldi d_Model_move_39 e_t39 ?_
      refine aw_i2l d_Model_move_40 ?_
      refine aw_iload_n d_Model_move_41 rfl rfl ?_
      refine aw_i2l d_Model_move_42 ?_
      refine aw_ladd d_Model_move_43 ?_
      refine aw_lstore_n (ls' := [(3, .long _), (0, .ref _), (1, .int _), (2, .int _)]) d_Model_move_44 rfl (Nat.le_of_ble_eq_true rfl) rfl ?_
      refine aw_aload_n d_Model_move_45 rfl rfl ?_
      obtain ⟨t46, e_t46, h⟩ := q_bind h
      refine aw_gtr d_Model_move_46 fl_Model_39 (Or.inr ⟨_, rfl⟩) e_t46 ?_
      refine aw_iload_n d_Model_move_49 rfl rfl ?_
      obtain ⟨t50, e_t50, h⟩ := q_bind h
      refine aw_ldi d_Model_move_50 e_t50 ?_
      refine aw_i2l d_Model_move_51 ?_
      refine aw_iload_n d_Model_move_52 rfl rfl ?_
      refine aw_i2l d_Model_move_53 ?_
      refine aw_ladd d_Model_move_54 ?_
      refine aw_lstore (ls' := [(5, .long _), (3, .long _), (0, .ref _), (1, .int _), (2, .int _)]) d_Model_move_55 (Nat.le_of_ble_eq_true rfl) rfl ?_
      refine aw_lload_n d_Model_move_57 rfl rfl ?_
      refine aw_lconst (v := 0) d_Model_move_58 (by decide) ?_
      refine aw_lcmp d_Model_move_59 ?_
      refine aw_if_lt (tgt := 72) d_Model_move_60 (by decide) (fun hc => ?_) (fun hc => ?_)
      · rw [if_pos hc] at h
        refine aw_iconst (v := 0) d_Model_move_72 (by decide) ?_
        cases h
        exact aw_zreturn d_Model_move_73 rfl (by decide) (Nat.le_of_ble_eq_true rfl) (Nat.le_of_ble_eq_true rfl) ⟨rfl, rfl⟩
      · rw [if_neg hc] at h
        refine aw_lload d_Model_move_63 rfl ?_
        refine aw_ldc2 (v := 20160) d_Model_move_65 (List.mem_of_getElem? (i := 1209) (by decide +kernel)) ?_
        refine aw_lcmp d_Model_move_68 ?_
        refine aw_if_le (tgt := 74) d_Model_move_69 (by decide) (fun hc => ?_) (fun hc => ?_)
        · rw [if_pos hc] at h
          refine aw_aload_n d_Model_move_74 rfl rfl ?_
          obtain ⟨t75, e_t75, h⟩ := q_bind h
          refine aw_gtr d_Model_move_75 fl_Model_36 (Or.inr ⟨_, rfl⟩) e_t75 ?_
          refine aw_iload_n d_Model_move_78 rfl rfl ?_
          refine aw_lload_n d_Model_move_79 rfl rfl ?_
          refine aw_l2i d_Model_move_80 ?_
          obtain ⟨M81, e_M81, h⟩ := q_bind h
          refine aw_sti d_Model_move_81 e_M81 ?_
          refine aw_aload_n d_Model_move_82 rfl rfl ?_
          obtain ⟨t83, e_t83, h⟩ := q_bind h
          refine aw_gtr d_Model_move_83 fl_Model_39 (Or.inr ⟨_, rfl⟩) e_t83 ?_
          refine aw_iload_n d_Model_move_86 rfl rfl ?_
          refine aw_lload d_Model_move_87 rfl ?_
          refine aw_l2i d_Model_move_89 ?_
          obtain ⟨M90, e_M90, h⟩ := q_bind h
          refine aw_sti d_Model_move_90 e_M90 ?_
          refine aw_aload_n d_Model_move_91 rfl rfl ?_
          obtain ⟨o92, e_o92, h⟩ := q_bind h
          obtain ⟨⟨t92, M92⟩, e_t92, h⟩ := q_bind h
          dsimp only at h
          refine aw_cV (v := none) (As := []) (rest := []) (st' := []) d_Model_move_92 kV_Model_188 (q_ob_spec e_o92).1 (q_ob_spec e_o92).2 ⟨Nat.le_of_ble_eq_true rfl, Nat.le_of_ble_eq_true rfl, Nat.le_of_ble_eq_true rfl, Nat.le_of_ble_eq_true rfl⟩ rfl rfl (Nat.le_of_ble_eq_true rfl) rfl (mt_Model_loses e_t92) ?_
          refine aw_iconst (v := 1) d_Model_move_95 (by decide) ?_
          cases h
          exact aw_zreturn d_Model_move_96 rfl (by decide) (Nat.le_of_ble_eq_true rfl) (Nat.le_of_ble_eq_true rfl) ⟨rfl, rfl⟩
        · rw [if_neg hc] at h
          refine aw_iconst (v := 0) d_Model_move_72 (by decide) ?_
          cases h
          exact aw_zreturn d_Model_move_73 rfl (by decide) (Nat.le_of_ble_eq_true rfl) (Nat.le_of_ble_eq_true rfl) ⟨rfl, rfl⟩
    · rw [if_pos hc] at h
      refine aw_iconst (v := 0) d_Model_move_32 (by decide) ?_
      cases h
      exact aw_zreturn d_Model_move_33 rfl (by decide) (Nat.le_of_ble_eq_true rfl) (Nat.le_of_ble_eq_true rfl) ⟨rfl, rfl⟩
theorem l_Model_move {res : Int32} {M' : am_M} : ∀ F : Nat, (∀ (r0 : Nat) (x1 : Int32) (x2 : Int32) (s0 : Int32) (sr1 : Nat) (M : am_M), g_Model_move F 0 r0 x1 x2 s0 sr1 M = some (res, M') → AW u_Model_move R_Model_move 0 0 16 [(0, .ref r0), (1, .int x1), (2, .int x2)] [.int s0, .ref sr1] M (fun r M2 => r = .inl (some (.int res)) ∧ M2 = M')) := by
  intro F
  induction F with
  | zero => exact fun _ _ _ _ _ _  h => (by cases h)
  | succ F ih =>
    have ih0 := ih
    exact s_Model_move_0 ih0
set_option maxHeartbeats 4000000 in
theorem mt_Model_move {M : am_M} {a0 : Nat} {a1 : Int32} {a2 : Int32} {res : Int32} {M' : am_M} (h : f_Model_move M a0 a1 a2 = some (res, M')) : AMet y_Model_move u_Model_move R_Model_move [.ref a0, .int a1, .int a2] M (fun r M2 => r = .inl (some (.int res)) ∧ M2 = M') := by
  refine am_met (by decide +kernel) w_Model_move rfl rfl (Nat.le_of_ble_eq_true rfl) ?_
  show AW u_Model_move R_Model_move 0 0 0 [(0, .ref a0), (1, .int a1), (2, .int a2)] [] M (fun r M2 => r = .inl (some (.int res)) ∧ M2 = M')
  have ih_0 := (l_Model_move (res := res) (M' := M') 1000000000)
  unfold f_Model_move at h
  unfold e_Model_move at h
  generalize g_Model_move 1000000000 = rc at h ih_0
  refine aw_aload_n d_Model_move_0 rfl rfl ?_
  refine aw_iload_n d_Model_move_1 rfl rfl ?_
  refine aw_iconst (v := 0) d_Model_move_2 (by decide) ?_
  refine aw_bipush (v := 11) d_Model_move_3 (by decide) ?_
  obtain ⟨t5, e_t5, h⟩ := q_bind h
  refine aw_cS (v := (some (.int t5))) (As := [.int a1, .int (0 : Int32), .int (11 : Int32)]) (rest := [.ref a0]) (st' := [.int t5, .ref a0]) d_Model_move_5 kS_Model_180 ⟨Nat.le_of_ble_eq_true rfl, Nat.le_of_ble_eq_true rfl, Nat.le_of_ble_eq_true rfl, Nat.le_of_ble_eq_true rfl⟩ rfl rfl (Nat.le_of_ble_eq_true rfl) rfl (mt_Model_within e_t5) ?_
  refine aw_if_ne (tgt := 15) d_Model_move_8 (by decide) (fun hc => ?_) (fun hc => ?_)
  · rw [if_neg hc] at h
    refine aw_iconst (v := 0) d_Model_move_15 (by decide) ?_
    exact aw_pick [0, 1, 2] rfl (ih_0 _ _ _ _ _ _ h)
  · rw [if_pos hc] at h
    refine aw_iconst (v := 1) d_Model_move_11 (by decide) ?_
    refine aw_goto (tgt := 16) d_Model_move_12 (by decide) ?_
    exact aw_pick [0, 1, 2] rfl (ih_0 _ _ _ _ _ _ h)
def y_Model_rule : MethodName := ⟨"CrewOfficeModel", "rule", "(II)V"⟩
def u_Model_rule : am_U := ("CrewOfficeModel", "rule", prog_12_method_18_code, 3, none, [])
def R_Model_rule : Room := { frames := 3, cells := 0, slots := 0, locals := 62 }
theorem d_Model_rule_0 : decode u_Model_rule.2.2.1 0 = .ok (.aload_n 0, 1) := by decide +kernel
theorem d_Model_rule_1 : decode u_Model_rule.2.2.1 1 = .ok (.iload_n 1, 1) := by decide +kernel
theorem d_Model_rule_2 : decode u_Model_rule.2.2.1 2 = .ok (.iconst 0, 1) := by decide +kernel
theorem d_Model_rule_3 : decode u_Model_rule.2.2.1 3 = .ok (.bipush 10, 2) := by decide +kernel
theorem d_Model_rule_5 : decode u_Model_rule.2.2.1 5 = .ok (.invokestatic 180, 3) := by decide +kernel
theorem d_Model_rule_8 : decode u_Model_rule.2.2.1 8 = .ok (.ifCond .eq 18, 3) := by decide +kernel
theorem d_Model_rule_11 : decode u_Model_rule.2.2.1 11 = .ok (.iload_n 2, 1) := by decide +kernel
theorem d_Model_rule_12 : decode u_Model_rule.2.2.1 12 = .ok (.iload_n 1, 1) := by decide +kernel
theorem d_Model_rule_13 : decode u_Model_rule.2.2.1 13 = .ok (.invokestatic 193, 3) := by decide +kernel
theorem d_Model_rule_16 : decode u_Model_rule.2.2.1 16 = .ok (.iload_n 1, 1) := by decide +kernel
theorem d_Model_rule_17 : decode u_Model_rule.2.2.1 17 = .ok (.invokestatic 197, 3) := by decide +kernel
theorem d_Model_rule_20 : decode u_Model_rule.2.2.1 20 = .ok (.invokestatic 180, 3) := by decide +kernel
theorem d_Model_rule_23 : decode u_Model_rule.2.2.1 23 = .ok (.ifCond .ne 7, 3) := by decide +kernel
theorem d_Model_rule_26 : decode u_Model_rule.2.2.1 26 = .ok (.iconst 1, 1) := by decide +kernel
theorem d_Model_rule_27 : decode u_Model_rule.2.2.1 27 = .ok (.goto 4, 3) := by decide +kernel
theorem d_Model_rule_30 : decode u_Model_rule.2.2.1 30 = .ok (.iconst 0, 1) := by decide +kernel
theorem d_Model_rule_31 : decode u_Model_rule.2.2.1 31 = .ok (.iconst 1, 1) := by decide +kernel
theorem d_Model_rule_32 : decode u_Model_rule.2.2.1 32 = .ok (.invokevirtual 184, 3) := by decide +kernel
theorem d_Model_rule_35 : decode u_Model_rule.2.2.1 35 = .ok (.ifCond .eq 4, 3) := by decide +kernel
theorem d_Model_rule_38 : decode u_Model_rule.2.2.1 38 = .ok (.return_, 1) := by decide +kernel
theorem d_Model_rule_39 : decode u_Model_rule.2.2.1 39 = .ok (.aload_n 0, 1) := by decide +kernel
theorem d_Model_rule_40 : decode u_Model_rule.2.2.1 40 = .ok (.getfield 78, 3) := by decide +kernel
theorem d_Model_rule_43 : decode u_Model_rule.2.2.1 43 = .ok (.iload_n 1, 1) := by decide +kernel
theorem d_Model_rule_44 : decode u_Model_rule.2.2.1 44 = .ok (.iload_n 2, 1) := by decide +kernel
theorem d_Model_rule_45 : decode u_Model_rule.2.2.1 45 = .ok (.iastore, 1) := by decide +kernel
theorem d_Model_rule_46 : decode u_Model_rule.2.2.1 46 = .ok (.aload_n 0, 1) := by decide +kernel
theorem d_Model_rule_47 : decode u_Model_rule.2.2.1 47 = .ok (.invokevirtual 188, 3) := by decide +kernel
theorem d_Model_rule_50 : decode u_Model_rule.2.2.1 50 = .ok (.return_, 1) := by decide +kernel
theorem w_Model_rule : am_code y_Model_rule u_Model_rule ∈ am_ws := am_mem (List.mem_of_getElem? (i := 1213) (by decide +kernel)) rfl
def a_Model_rule_0 (rc : Nat → Nat → Int32 → Int32 → Int32 → Nat → Nat → am_M → Option (Unit × am_M)) (r0 : Nat) (x1 : Int32) (x2 : Int32) (s0 : Int32) (sr0 : Nat) (sr1 : Nat) (M : am_M) : Option (Unit × am_M) := rc 1 r0 x1 x2 (1 : Int32) 0 sr0 M
def a_Model_rule_1 (rc : Nat → Nat → Int32 → Int32 → Int32 → Nat → Nat → am_M → Option (Unit × am_M)) (r0 : Nat) (x1 : Int32) (x2 : Int32) (s0 : Int32) (sr0 : Nat) (sr1 : Nat) (M : am_M) : Option (Unit × am_M) := (q_ob M sr1 10).bind (fun o32 => (f_Model_fails M sr1 s0 (1 : Int32)).bind (fun p32 => if p32.1 = 0 then ((q_gtr p32.2 r0 10 23).bind (fun t40 => (q_sti p32.2 t40 x1 x2).bind (fun M45 => (q_ob M45 r0 10).bind (fun o47 => (f_Model_loses M45 r0).bind (fun p47 => some ((), p47.2)))))) else (some ((), p32.2))))
def g_Model_rule : Nat → Nat → Nat → Int32 → Int32 → Int32 → Nat → Nat → am_M → Option (Unit × am_M)
  | 0, _, _, _, _, _, _, _, _ => none
  | F + 1, 0, r0, x1, x2, s0, sr0, sr1, M => a_Model_rule_0 (g_Model_rule F) r0 x1 x2 s0 sr0 sr1 M
  | F + 1, 1, r0, x1, x2, s0, sr0, sr1, M => a_Model_rule_1 (g_Model_rule F) r0 x1 x2 s0 sr0 sr1 M
  | _ + 1, _ + 2, _, _, _, _, _, _, _ => none
def e_Model_rule (rc : Nat → Nat → Int32 → Int32 → Int32 → Nat → Nat → am_M → Option (Unit × am_M)) (M : am_M) (a0 : Nat) (a1 : Int32) (a2 : Int32) : Option (Unit × am_M) := (f_Model_within M a1 (0 : Int32) (10 : Int32)).bind (fun t5 => if t5 = 0 then (rc 0 a0 a1 a2 0 a0 0 M) else ((f_Model_leastOf M a1).bind (fun t13 => (f_Model_mostOf M a1).bind (fun t17 => (f_Model_within M a2 t13 t17).bind (fun t20 => if t20 = 0 then (rc 0 a0 a1 a2 0 a0 0 M) else (rc 1 a0 a1 a2 (0 : Int32) 0 a0 M))))))
def f_Model_rule (M : am_M) (a0 : Nat) (a1 : Int32) (a2 : Int32) : Option (Unit × am_M) := e_Model_rule (g_Model_rule 1000000000) M a0 a1 a2
theorem kS_Model_193 : am_kS "CrewOfficeModel" 193 y_Model_leastOf u_Model_leastOf 1 := ⟨List.mem_of_getElem? (i := 1214) (by decide +kernel), List.mem_of_getElem? (i := 1215) (by decide +kernel), List.mem_of_getElem? (i := 65) (by decide +kernel), w_Model_leastOf, ⟨⟨by decide +kernel, by decide +kernel⟩, by decide +kernel⟩⟩
theorem kS_Model_197 : am_kS "CrewOfficeModel" 197 y_Model_mostOf u_Model_mostOf 1 := ⟨List.mem_of_getElem? (i := 1217) (by decide +kernel), List.mem_of_getElem? (i := 1218) (by decide +kernel), List.mem_of_getElem? (i := 65) (by decide +kernel), w_Model_mostOf, ⟨⟨by decide +kernel, by decide +kernel⟩, by decide +kernel⟩⟩
set_option maxHeartbeats 4000000 in
theorem s_Model_rule_0 {rc : Nat → Nat → Int32 → Int32 → Int32 → Nat → Nat → am_M → Option (Unit × am_M)} {res : Unit} {M' : am_M} (ih_0 : ∀ (r0 : Nat) (x1 : Int32) (x2 : Int32) (s0 : Int32) (sr0 : Nat) (sr1 : Nat) (M : am_M), rc 0 r0 x1 x2 s0 sr0 sr1 M = some (res, M') → AW u_Model_rule R_Model_rule 0 0 26 [(0, .ref r0), (1, .int x1), (2, .int x2)] [.ref sr0] M (fun r M2 => r = .inl none ∧ M2 = M')) (ih_1 : ∀ (r0 : Nat) (x1 : Int32) (x2 : Int32) (s0 : Int32) (sr0 : Nat) (sr1 : Nat) (M : am_M), rc 1 r0 x1 x2 s0 sr0 sr1 M = some (res, M') → AW u_Model_rule R_Model_rule 0 0 31 [(0, .ref r0), (1, .int x1), (2, .int x2)] [.int s0, .ref sr1] M (fun r M2 => r = .inl none ∧ M2 = M')) : ∀ (r0 : Nat) (x1 : Int32) (x2 : Int32) (s0 : Int32) (sr0 : Nat) (sr1 : Nat) (M : am_M), a_Model_rule_0 rc r0 x1 x2 s0 sr0 sr1 M = some (res, M') → AW u_Model_rule R_Model_rule 0 0 26 [(0, .ref r0), (1, .int x1), (2, .int x2)] [.ref sr0] M (fun r M2 => r = .inl none ∧ M2 = M') := by
  intro r0 x1 x2 s0 sr0 sr1 M h
  unfold a_Model_rule_0 at h
  refine aw_iconst (v := 1) d_Model_rule_26 (by decide) ?_
  refine aw_goto (tgt := 31) d_Model_rule_27 (by decide) ?_
  exact aw_pick [0, 1, 2] rfl (ih_1 _ _ _ _ _ _ _ h)
set_option maxHeartbeats 4000000 in
theorem s_Model_rule_1 {rc : Nat → Nat → Int32 → Int32 → Int32 → Nat → Nat → am_M → Option (Unit × am_M)} {res : Unit} {M' : am_M} (ih_0 : ∀ (r0 : Nat) (x1 : Int32) (x2 : Int32) (s0 : Int32) (sr0 : Nat) (sr1 : Nat) (M : am_M), rc 0 r0 x1 x2 s0 sr0 sr1 M = some (res, M') → AW u_Model_rule R_Model_rule 0 0 26 [(0, .ref r0), (1, .int x1), (2, .int x2)] [.ref sr0] M (fun r M2 => r = .inl none ∧ M2 = M')) (ih_1 : ∀ (r0 : Nat) (x1 : Int32) (x2 : Int32) (s0 : Int32) (sr0 : Nat) (sr1 : Nat) (M : am_M), rc 1 r0 x1 x2 s0 sr0 sr1 M = some (res, M') → AW u_Model_rule R_Model_rule 0 0 31 [(0, .ref r0), (1, .int x1), (2, .int x2)] [.int s0, .ref sr1] M (fun r M2 => r = .inl none ∧ M2 = M')) : ∀ (r0 : Nat) (x1 : Int32) (x2 : Int32) (s0 : Int32) (sr0 : Nat) (sr1 : Nat) (M : am_M), a_Model_rule_1 rc r0 x1 x2 s0 sr0 sr1 M = some (res, M') → AW u_Model_rule R_Model_rule 0 0 31 [(0, .ref r0), (1, .int x1), (2, .int x2)] [.int s0, .ref sr1] M (fun r M2 => r = .inl none ∧ M2 = M') := by
  intro r0 x1 x2 s0 sr0 sr1 M h
  unfold a_Model_rule_1 at h
  refine aw_iconst (v := 1) d_Model_rule_31 (by decide) ?_
  obtain ⟨o32, e_o32, h⟩ := q_bind h
  obtain ⟨⟨t32, M32⟩, e_t32, h⟩ := q_bind h
  dsimp only at h
  refine aw_cV (v := (some (.int t32))) (As := [.int s0, .int (1 : Int32)]) (rest := []) (st' := [.int t32]) d_Model_rule_32 kV_Model_184 (q_ob_spec e_o32).1 (q_ob_spec e_o32).2 ⟨Nat.le_of_ble_eq_true rfl, Nat.le_of_ble_eq_true rfl, Nat.le_of_ble_eq_true rfl, Nat.le_of_ble_eq_true rfl⟩ rfl rfl (Nat.le_of_ble_eq_true rfl) rfl (mt_Model_fails e_t32) ?_
  refine aw_if_eq (tgt := 39) d_Model_rule_35 (by decide) (fun hc => ?_) (fun hc => ?_)
  · rw [if_pos hc] at h
    refine aw_aload_n d_Model_rule_39 rfl rfl ?_
    obtain ⟨t40, e_t40, h⟩ := q_bind h
    refine aw_gtr d_Model_rule_40 fl_Model_78 (Or.inr ⟨_, rfl⟩) e_t40 ?_
    refine aw_iload_n d_Model_rule_43 rfl rfl ?_
    refine aw_iload_n d_Model_rule_44 rfl rfl ?_
    obtain ⟨M45, e_M45, h⟩ := q_bind h
    refine aw_sti d_Model_rule_45 e_M45 ?_
    refine aw_aload_n d_Model_rule_46 rfl rfl ?_
    obtain ⟨o47, e_o47, h⟩ := q_bind h
    obtain ⟨⟨t47, M47⟩, e_t47, h⟩ := q_bind h
    dsimp only at h
    refine aw_cV (v := none) (As := []) (rest := []) (st' := []) d_Model_rule_47 kV_Model_188 (q_ob_spec e_o47).1 (q_ob_spec e_o47).2 ⟨Nat.le_of_ble_eq_true rfl, Nat.le_of_ble_eq_true rfl, Nat.le_of_ble_eq_true rfl, Nat.le_of_ble_eq_true rfl⟩ rfl rfl (Nat.le_of_ble_eq_true rfl) rfl (mt_Model_loses e_t47) ?_
    cases h
    exact aw_vreturn d_Model_rule_50 rfl (Nat.le_of_ble_eq_true rfl) (Nat.le_of_ble_eq_true rfl) ⟨rfl, rfl⟩
  · rw [if_neg hc] at h
    cases h
    exact aw_vreturn d_Model_rule_38 rfl (Nat.le_of_ble_eq_true rfl) (Nat.le_of_ble_eq_true rfl) ⟨rfl, rfl⟩
theorem l_Model_rule {res : Unit} {M' : am_M} : ∀ F : Nat, (∀ (r0 : Nat) (x1 : Int32) (x2 : Int32) (s0 : Int32) (sr0 : Nat) (sr1 : Nat) (M : am_M), g_Model_rule F 0 r0 x1 x2 s0 sr0 sr1 M = some (res, M') → AW u_Model_rule R_Model_rule 0 0 26 [(0, .ref r0), (1, .int x1), (2, .int x2)] [.ref sr0] M (fun r M2 => r = .inl none ∧ M2 = M')) ∧ (∀ (r0 : Nat) (x1 : Int32) (x2 : Int32) (s0 : Int32) (sr0 : Nat) (sr1 : Nat) (M : am_M), g_Model_rule F 1 r0 x1 x2 s0 sr0 sr1 M = some (res, M') → AW u_Model_rule R_Model_rule 0 0 31 [(0, .ref r0), (1, .int x1), (2, .int x2)] [.int s0, .ref sr1] M (fun r M2 => r = .inl none ∧ M2 = M')) := by
  intro F
  induction F with
  | zero => exact ⟨fun _ _ _ _ _ _ _  h => (by cases h), fun _ _ _ _ _ _ _  h => (by cases h)⟩
  | succ F ih =>
    obtain ⟨ih0, ih1⟩ := ih
    exact ⟨s_Model_rule_0 ih0 ih1, s_Model_rule_1 ih0 ih1⟩
set_option maxHeartbeats 4000000 in
theorem mt_Model_rule {M : am_M} {a0 : Nat} {a1 : Int32} {a2 : Int32} {res : Unit} {M' : am_M} (h : f_Model_rule M a0 a1 a2 = some (res, M')) : AMet y_Model_rule u_Model_rule R_Model_rule [.ref a0, .int a1, .int a2] M (fun r M2 => r = .inl none ∧ M2 = M') := by
  refine am_met (by decide +kernel) w_Model_rule rfl rfl (Nat.le_of_ble_eq_true rfl) ?_
  show AW u_Model_rule R_Model_rule 0 0 0 [(0, .ref a0), (1, .int a1), (2, .int a2)] [] M (fun r M2 => r = .inl none ∧ M2 = M')
  have ih_0 := (l_Model_rule (res := res) (M' := M') 1000000000).1
  have ih_1 := (l_Model_rule (res := res) (M' := M') 1000000000).2
  unfold f_Model_rule at h
  unfold e_Model_rule at h
  generalize g_Model_rule 1000000000 = rc at h ih_0 ih_1
  refine aw_aload_n d_Model_rule_0 rfl rfl ?_
  refine aw_iload_n d_Model_rule_1 rfl rfl ?_
  refine aw_iconst (v := 0) d_Model_rule_2 (by decide) ?_
  refine aw_bipush (v := 10) d_Model_rule_3 (by decide) ?_
  obtain ⟨t5, e_t5, h⟩ := q_bind h
  refine aw_cS (v := (some (.int t5))) (As := [.int a1, .int (0 : Int32), .int (10 : Int32)]) (rest := [.ref a0]) (st' := [.int t5, .ref a0]) d_Model_rule_5 kS_Model_180 ⟨Nat.le_of_ble_eq_true rfl, Nat.le_of_ble_eq_true rfl, Nat.le_of_ble_eq_true rfl, Nat.le_of_ble_eq_true rfl⟩ rfl rfl (Nat.le_of_ble_eq_true rfl) rfl (mt_Model_within e_t5) ?_
  refine aw_if_eq (tgt := 26) d_Model_rule_8 (by decide) (fun hc => ?_) (fun hc => ?_)
  · rw [if_pos hc] at h
    exact aw_pick [0, 1, 2] rfl (ih_0 _ _ _ _ _ _ _ h)
  · rw [if_neg hc] at h
    refine aw_iload_n d_Model_rule_11 rfl rfl ?_
    refine aw_iload_n d_Model_rule_12 rfl rfl ?_
    obtain ⟨t13, e_t13, h⟩ := q_bind h
    refine aw_cS (v := (some (.int t13))) (As := [.int a1]) (rest := [.int a2, .ref a0]) (st' := [.int t13, .int a2, .ref a0]) d_Model_rule_13 kS_Model_193 ⟨Nat.le_of_ble_eq_true rfl, Nat.le_of_ble_eq_true rfl, Nat.le_of_ble_eq_true rfl, Nat.le_of_ble_eq_true rfl⟩ rfl rfl (Nat.le_of_ble_eq_true rfl) rfl (mt_Model_leastOf e_t13) ?_
    refine aw_iload_n d_Model_rule_16 rfl rfl ?_
    obtain ⟨t17, e_t17, h⟩ := q_bind h
    refine aw_cS (v := (some (.int t17))) (As := [.int a1]) (rest := [.int t13, .int a2, .ref a0]) (st' := [.int t17, .int t13, .int a2, .ref a0]) d_Model_rule_17 kS_Model_197 ⟨Nat.le_of_ble_eq_true rfl, Nat.le_of_ble_eq_true rfl, Nat.le_of_ble_eq_true rfl, Nat.le_of_ble_eq_true rfl⟩ rfl rfl (Nat.le_of_ble_eq_true rfl) rfl (mt_Model_mostOf e_t17) ?_
    obtain ⟨t20, e_t20, h⟩ := q_bind h
    refine aw_cS (v := (some (.int t20))) (As := [.int a2, .int t13, .int t17]) (rest := [.ref a0]) (st' := [.int t20, .ref a0]) d_Model_rule_20 kS_Model_180 ⟨Nat.le_of_ble_eq_true rfl, Nat.le_of_ble_eq_true rfl, Nat.le_of_ble_eq_true rfl, Nat.le_of_ble_eq_true rfl⟩ rfl rfl (Nat.le_of_ble_eq_true rfl) rfl (mt_Model_within e_t20) ?_
    refine aw_if_ne (tgt := 30) d_Model_rule_23 (by decide) (fun hc => ?_) (fun hc => ?_)
    · rw [if_neg hc] at h
      refine aw_iconst (v := 0) d_Model_rule_30 (by decide) ?_
      exact aw_pick [0, 1, 2] rfl (ih_1 _ _ _ _ _ _ _ h)
    · rw [if_pos hc] at h
      exact aw_pick [0, 1, 2] rfl (ih_0 _ _ _ _ _ _ _ h)
def y_Model_limit : MethodName := ⟨"CrewOfficeModel", "limit", "(III)V"⟩
def u_Model_limit : am_U := ("CrewOfficeModel", "limit", prog_12_method_19_code, 4, none, [])
def R_Model_limit : Room := { frames := 3, cells := 0, slots := 0, locals := 62 }
theorem d_Model_limit_0 : decode u_Model_limit.2.2.1 0 = .ok (.aload_n 0, 1) := by decide +kernel
theorem d_Model_limit_1 : decode u_Model_limit.2.2.1 1 = .ok (.iload_n 1, 1) := by decide +kernel
theorem d_Model_limit_2 : decode u_Model_limit.2.2.1 2 = .ok (.iconst 0, 1) := by decide +kernel
theorem d_Model_limit_3 : decode u_Model_limit.2.2.1 3 = .ok (.iconst 3, 1) := by decide +kernel
theorem d_Model_limit_4 : decode u_Model_limit.2.2.1 4 = .ok (.invokestatic 180, 3) := by decide +kernel
theorem d_Model_limit_7 : decode u_Model_limit.2.2.1 7 = .ok (.ifCond .eq 24, 3) := by decide +kernel
theorem d_Model_limit_10 : decode u_Model_limit.2.2.1 10 = .ok (.iload_n 2, 1) := by decide +kernel
theorem d_Model_limit_11 : decode u_Model_limit.2.2.1 11 = .ok (.iconst 1, 1) := by decide +kernel
theorem d_Model_limit_12 : decode u_Model_limit.2.2.1 12 = .ok (.iconst 4, 1) := by decide +kernel
theorem d_Model_limit_13 : decode u_Model_limit.2.2.1 13 = .ok (.invokestatic 180, 3) := by decide +kernel
theorem d_Model_limit_16 : decode u_Model_limit.2.2.1 16 = .ok (.ifCond .eq 15, 3) := by decide +kernel
theorem d_Model_limit_19 : decode u_Model_limit.2.2.1 19 = .ok (.iload_n 3, 1) := by decide +kernel
theorem d_Model_limit_20 : decode u_Model_limit.2.2.1 20 = .ok (.bipush 60, 2) := by decide +kernel
theorem d_Model_limit_22 : decode u_Model_limit.2.2.1 22 = .ok (.sipush 1440, 3) := by decide +kernel
theorem d_Model_limit_25 : decode u_Model_limit.2.2.1 25 = .ok (.invokestatic 180, 3) := by decide +kernel
theorem d_Model_limit_28 : decode u_Model_limit.2.2.1 28 = .ok (.ifCond .ne 7, 3) := by decide +kernel
theorem d_Model_limit_31 : decode u_Model_limit.2.2.1 31 = .ok (.iconst 1, 1) := by decide +kernel
theorem d_Model_limit_32 : decode u_Model_limit.2.2.1 32 = .ok (.goto 4, 3) := by decide +kernel
theorem d_Model_limit_35 : decode u_Model_limit.2.2.1 35 = .ok (.iconst 0, 1) := by decide +kernel
theorem d_Model_limit_36 : decode u_Model_limit.2.2.1 36 = .ok (.iconst 1, 1) := by decide +kernel
theorem d_Model_limit_37 : decode u_Model_limit.2.2.1 37 = .ok (.invokevirtual 184, 3) := by decide +kernel
theorem d_Model_limit_40 : decode u_Model_limit.2.2.1 40 = .ok (.ifCond .eq 4, 3) := by decide +kernel
theorem d_Model_limit_43 : decode u_Model_limit.2.2.1 43 = .ok (.return_, 1) := by decide +kernel
theorem d_Model_limit_44 : decode u_Model_limit.2.2.1 44 = .ok (.aload_n 0, 1) := by decide +kernel
theorem d_Model_limit_45 : decode u_Model_limit.2.2.1 45 = .ok (.getfield 81, 3) := by decide +kernel
theorem d_Model_limit_48 : decode u_Model_limit.2.2.1 48 = .ok (.iconst 4, 1) := by decide +kernel
theorem d_Model_limit_49 : decode u_Model_limit.2.2.1 49 = .ok (.iload_n 1, 1) := by decide +kernel
theorem d_Model_limit_50 : decode u_Model_limit.2.2.1 50 = .ok (.imul, 1) := by decide +kernel
theorem d_Model_limit_51 : decode u_Model_limit.2.2.1 51 = .ok (.iload_n 2, 1) := by decide +kernel
theorem d_Model_limit_52 : decode u_Model_limit.2.2.1 52 = .ok (.iadd, 1) := by decide +kernel
theorem d_Model_limit_53 : decode u_Model_limit.2.2.1 53 = .ok (.iconst 1, 1) := by decide +kernel
theorem d_Model_limit_54 : decode u_Model_limit.2.2.1 54 = .ok (.isub, 1) := by decide +kernel
theorem d_Model_limit_55 : decode u_Model_limit.2.2.1 55 = .ok (.iload_n 3, 1) := by decide +kernel
theorem d_Model_limit_56 : decode u_Model_limit.2.2.1 56 = .ok (.iastore, 1) := by decide +kernel
theorem d_Model_limit_57 : decode u_Model_limit.2.2.1 57 = .ok (.aload_n 0, 1) := by decide +kernel
theorem d_Model_limit_58 : decode u_Model_limit.2.2.1 58 = .ok (.invokevirtual 188, 3) := by decide +kernel
theorem d_Model_limit_61 : decode u_Model_limit.2.2.1 61 = .ok (.return_, 1) := by decide +kernel
theorem w_Model_limit : am_code y_Model_limit u_Model_limit ∈ am_ws := am_mem (List.mem_of_getElem? (i := 1223) (by decide +kernel)) rfl
def a_Model_limit_0 (rc : Nat → Nat → Int32 → Int32 → Int32 → Int32 → Nat → Nat → am_M → Option (Unit × am_M)) (r0 : Nat) (x1 : Int32) (x2 : Int32) (x3 : Int32) (s0 : Int32) (sr0 : Nat) (sr1 : Nat) (M : am_M) : Option (Unit × am_M) := rc 1 r0 x1 x2 x3 (1 : Int32) 0 sr0 M
def a_Model_limit_1 (rc : Nat → Nat → Int32 → Int32 → Int32 → Int32 → Nat → Nat → am_M → Option (Unit × am_M)) (r0 : Nat) (x1 : Int32) (x2 : Int32) (x3 : Int32) (s0 : Int32) (sr0 : Nat) (sr1 : Nat) (M : am_M) : Option (Unit × am_M) := (q_ob M sr1 10).bind (fun o37 => (f_Model_fails M sr1 s0 (1 : Int32)).bind (fun p37 => if p37.1 = 0 then ((q_gtr p37.2 r0 10 24).bind (fun t45 => (q_sti p37.2 t45 ((((4 : Int32) * x1) + x2) - (1 : Int32)) x3).bind (fun M56 => (q_ob M56 r0 10).bind (fun o58 => (f_Model_loses M56 r0).bind (fun p58 => some ((), p58.2)))))) else (some ((), p37.2))))
def g_Model_limit : Nat → Nat → Nat → Int32 → Int32 → Int32 → Int32 → Nat → Nat → am_M → Option (Unit × am_M)
  | 0, _, _, _, _, _, _, _, _, _ => none
  | F + 1, 0, r0, x1, x2, x3, s0, sr0, sr1, M => a_Model_limit_0 (g_Model_limit F) r0 x1 x2 x3 s0 sr0 sr1 M
  | F + 1, 1, r0, x1, x2, x3, s0, sr0, sr1, M => a_Model_limit_1 (g_Model_limit F) r0 x1 x2 x3 s0 sr0 sr1 M
  | _ + 1, _ + 2, _, _, _, _, _, _, _, _ => none
def e_Model_limit (rc : Nat → Nat → Int32 → Int32 → Int32 → Int32 → Nat → Nat → am_M → Option (Unit × am_M)) (M : am_M) (a0 : Nat) (a1 : Int32) (a2 : Int32) (a3 : Int32) : Option (Unit × am_M) := (f_Model_within M a1 (0 : Int32) (3 : Int32)).bind (fun t4 => if t4 = 0 then (rc 0 a0 a1 a2 a3 0 a0 0 M) else ((f_Model_within M a2 (1 : Int32) (4 : Int32)).bind (fun t13 => if t13 = 0 then (rc 0 a0 a1 a2 a3 0 a0 0 M) else ((f_Model_within M a3 (60 : Int32) (1440 : Int32)).bind (fun t25 => if t25 = 0 then (rc 0 a0 a1 a2 a3 0 a0 0 M) else (rc 1 a0 a1 a2 a3 (0 : Int32) 0 a0 M))))))
def f_Model_limit (M : am_M) (a0 : Nat) (a1 : Int32) (a2 : Int32) (a3 : Int32) : Option (Unit × am_M) := e_Model_limit (g_Model_limit 1000000000) M a0 a1 a2 a3
set_option maxHeartbeats 4000000 in
theorem s_Model_limit_0 {rc : Nat → Nat → Int32 → Int32 → Int32 → Int32 → Nat → Nat → am_M → Option (Unit × am_M)} {res : Unit} {M' : am_M} (ih_0 : ∀ (r0 : Nat) (x1 : Int32) (x2 : Int32) (x3 : Int32) (s0 : Int32) (sr0 : Nat) (sr1 : Nat) (M : am_M), rc 0 r0 x1 x2 x3 s0 sr0 sr1 M = some (res, M') → AW u_Model_limit R_Model_limit 0 0 31 [(0, .ref r0), (1, .int x1), (2, .int x2), (3, .int x3)] [.ref sr0] M (fun r M2 => r = .inl none ∧ M2 = M')) (ih_1 : ∀ (r0 : Nat) (x1 : Int32) (x2 : Int32) (x3 : Int32) (s0 : Int32) (sr0 : Nat) (sr1 : Nat) (M : am_M), rc 1 r0 x1 x2 x3 s0 sr0 sr1 M = some (res, M') → AW u_Model_limit R_Model_limit 0 0 36 [(0, .ref r0), (1, .int x1), (2, .int x2), (3, .int x3)] [.int s0, .ref sr1] M (fun r M2 => r = .inl none ∧ M2 = M')) : ∀ (r0 : Nat) (x1 : Int32) (x2 : Int32) (x3 : Int32) (s0 : Int32) (sr0 : Nat) (sr1 : Nat) (M : am_M), a_Model_limit_0 rc r0 x1 x2 x3 s0 sr0 sr1 M = some (res, M') → AW u_Model_limit R_Model_limit 0 0 31 [(0, .ref r0), (1, .int x1), (2, .int x2), (3, .int x3)] [.ref sr0] M (fun r M2 => r = .inl none ∧ M2 = M') := by
  intro r0 x1 x2 x3 s0 sr0 sr1 M h
  unfold a_Model_limit_0 at h
  refine aw_iconst (v := 1) d_Model_limit_31 (by decide) ?_
  refine aw_goto (tgt := 36) d_Model_limit_32 (by decide) ?_
  exact aw_pick [0, 1, 2, 3] rfl (ih_1 _ _ _ _ _ _ _ _ h)
set_option maxHeartbeats 4000000 in
theorem s_Model_limit_1 {rc : Nat → Nat → Int32 → Int32 → Int32 → Int32 → Nat → Nat → am_M → Option (Unit × am_M)} {res : Unit} {M' : am_M} (ih_0 : ∀ (r0 : Nat) (x1 : Int32) (x2 : Int32) (x3 : Int32) (s0 : Int32) (sr0 : Nat) (sr1 : Nat) (M : am_M), rc 0 r0 x1 x2 x3 s0 sr0 sr1 M = some (res, M') → AW u_Model_limit R_Model_limit 0 0 31 [(0, .ref r0), (1, .int x1), (2, .int x2), (3, .int x3)] [.ref sr0] M (fun r M2 => r = .inl none ∧ M2 = M')) (ih_1 : ∀ (r0 : Nat) (x1 : Int32) (x2 : Int32) (x3 : Int32) (s0 : Int32) (sr0 : Nat) (sr1 : Nat) (M : am_M), rc 1 r0 x1 x2 x3 s0 sr0 sr1 M = some (res, M') → AW u_Model_limit R_Model_limit 0 0 36 [(0, .ref r0), (1, .int x1), (2, .int x2), (3, .int x3)] [.int s0, .ref sr1] M (fun r M2 => r = .inl none ∧ M2 = M')) : ∀ (r0 : Nat) (x1 : Int32) (x2 : Int32) (x3 : Int32) (s0 : Int32) (sr0 : Nat) (sr1 : Nat) (M : am_M), a_Model_limit_1 rc r0 x1 x2 x3 s0 sr0 sr1 M = some (res, M') → AW u_Model_limit R_Model_limit 0 0 36 [(0, .ref r0), (1, .int x1), (2, .int x2), (3, .int x3)] [.int s0, .ref sr1] M (fun r M2 => r = .inl none ∧ M2 = M') := by
  intro r0 x1 x2 x3 s0 sr0 sr1 M h
  unfold a_Model_limit_1 at h
  refine aw_iconst (v := 1) d_Model_limit_36 (by decide) ?_
  obtain ⟨o37, e_o37, h⟩ := q_bind h
  obtain ⟨⟨t37, M37⟩, e_t37, h⟩ := q_bind h
  dsimp only at h
  refine aw_cV (v := (some (.int t37))) (As := [.int s0, .int (1 : Int32)]) (rest := []) (st' := [.int t37]) d_Model_limit_37 kV_Model_184 (q_ob_spec e_o37).1 (q_ob_spec e_o37).2 ⟨Nat.le_of_ble_eq_true rfl, Nat.le_of_ble_eq_true rfl, Nat.le_of_ble_eq_true rfl, Nat.le_of_ble_eq_true rfl⟩ rfl rfl (Nat.le_of_ble_eq_true rfl) rfl (mt_Model_fails e_t37) ?_
  refine aw_if_eq (tgt := 44) d_Model_limit_40 (by decide) (fun hc => ?_) (fun hc => ?_)
  · rw [if_pos hc] at h
    refine aw_aload_n d_Model_limit_44 rfl rfl ?_
    obtain ⟨t45, e_t45, h⟩ := q_bind h
    refine aw_gtr d_Model_limit_45 fl_Model_81 (Or.inr ⟨_, rfl⟩) e_t45 ?_
    refine aw_iconst (v := 4) d_Model_limit_48 (by decide) ?_
    refine aw_iload_n d_Model_limit_49 rfl rfl ?_
    refine aw_imul d_Model_limit_50 ?_
    refine aw_iload_n d_Model_limit_51 rfl rfl ?_
    refine aw_iadd d_Model_limit_52 ?_
    refine aw_iconst (v := 1) d_Model_limit_53 (by decide) ?_
    refine aw_isub d_Model_limit_54 ?_
    refine aw_iload_n d_Model_limit_55 rfl rfl ?_
    obtain ⟨M56, e_M56, h⟩ := q_bind h
    refine aw_sti d_Model_limit_56 e_M56 ?_
    refine aw_aload_n d_Model_limit_57 rfl rfl ?_
    obtain ⟨o58, e_o58, h⟩ := q_bind h
    obtain ⟨⟨t58, M58⟩, e_t58, h⟩ := q_bind h
    dsimp only at h
    refine aw_cV (v := none) (As := []) (rest := []) (st' := []) d_Model_limit_58 kV_Model_188 (q_ob_spec e_o58).1 (q_ob_spec e_o58).2 ⟨Nat.le_of_ble_eq_true rfl, Nat.le_of_ble_eq_true rfl, Nat.le_of_ble_eq_true rfl, Nat.le_of_ble_eq_true rfl⟩ rfl rfl (Nat.le_of_ble_eq_true rfl) rfl (mt_Model_loses e_t58) ?_
    cases h
    exact aw_vreturn d_Model_limit_61 rfl (Nat.le_of_ble_eq_true rfl) (Nat.le_of_ble_eq_true rfl) ⟨rfl, rfl⟩
  · rw [if_neg hc] at h
    cases h
    exact aw_vreturn d_Model_limit_43 rfl (Nat.le_of_ble_eq_true rfl) (Nat.le_of_ble_eq_true rfl) ⟨rfl, rfl⟩
theorem l_Model_limit {res : Unit} {M' : am_M} : ∀ F : Nat, (∀ (r0 : Nat) (x1 : Int32) (x2 : Int32) (x3 : Int32) (s0 : Int32) (sr0 : Nat) (sr1 : Nat) (M : am_M), g_Model_limit F 0 r0 x1 x2 x3 s0 sr0 sr1 M = some (res, M') → AW u_Model_limit R_Model_limit 0 0 31 [(0, .ref r0), (1, .int x1), (2, .int x2), (3, .int x3)] [.ref sr0] M (fun r M2 => r = .inl none ∧ M2 = M')) ∧ (∀ (r0 : Nat) (x1 : Int32) (x2 : Int32) (x3 : Int32) (s0 : Int32) (sr0 : Nat) (sr1 : Nat) (M : am_M), g_Model_limit F 1 r0 x1 x2 x3 s0 sr0 sr1 M = some (res, M') → AW u_Model_limit R_Model_limit 0 0 36 [(0, .ref r0), (1, .int x1), (2, .int x2), (3, .int x3)] [.int s0, .ref sr1] M (fun r M2 => r = .inl none ∧ M2 = M')) := by
  intro F
  induction F with
  | zero => exact ⟨fun _ _ _ _ _ _ _ _  h => (by cases h), fun _ _ _ _ _ _ _ _  h => (by cases h)⟩
  | succ F ih =>
    obtain ⟨ih0, ih1⟩ := ih
    exact ⟨s_Model_limit_0 ih0 ih1, s_Model_limit_1 ih0 ih1⟩
set_option maxHeartbeats 4000000 in
theorem mt_Model_limit {M : am_M} {a0 : Nat} {a1 : Int32} {a2 : Int32} {a3 : Int32} {res : Unit} {M' : am_M} (h : f_Model_limit M a0 a1 a2 a3 = some (res, M')) : AMet y_Model_limit u_Model_limit R_Model_limit [.ref a0, .int a1, .int a2, .int a3] M (fun r M2 => r = .inl none ∧ M2 = M') := by
  refine am_met (by decide +kernel) w_Model_limit rfl rfl (Nat.le_of_ble_eq_true rfl) ?_
  show AW u_Model_limit R_Model_limit 0 0 0 [(0, .ref a0), (1, .int a1), (2, .int a2), (3, .int a3)] [] M (fun r M2 => r = .inl none ∧ M2 = M')
  have ih_0 := (l_Model_limit (res := res) (M' := M') 1000000000).1
  have ih_1 := (l_Model_limit (res := res) (M' := M') 1000000000).2
  unfold f_Model_limit at h
  unfold e_Model_limit at h
  generalize g_Model_limit 1000000000 = rc at h ih_0 ih_1
  refine aw_aload_n d_Model_limit_0 rfl rfl ?_
  refine aw_iload_n d_Model_limit_1 rfl rfl ?_
  refine aw_iconst (v := 0) d_Model_limit_2 (by decide) ?_
  refine aw_iconst (v := 3) d_Model_limit_3 (by decide) ?_
  obtain ⟨t4, e_t4, h⟩ := q_bind h
  refine aw_cS (v := (some (.int t4))) (As := [.int a1, .int (0 : Int32), .int (3 : Int32)]) (rest := [.ref a0]) (st' := [.int t4, .ref a0]) d_Model_limit_4 kS_Model_180 ⟨Nat.le_of_ble_eq_true rfl, Nat.le_of_ble_eq_true rfl, Nat.le_of_ble_eq_true rfl, Nat.le_of_ble_eq_true rfl⟩ rfl rfl (Nat.le_of_ble_eq_true rfl) rfl (mt_Model_within e_t4) ?_
  refine aw_if_eq (tgt := 31) d_Model_limit_7 (by decide) (fun hc => ?_) (fun hc => ?_)
  · rw [if_pos hc] at h
    exact aw_pick [0, 1, 2, 3] rfl (ih_0 _ _ _ _ _ _ _ _ h)
  · rw [if_neg hc] at h
    refine aw_iload_n d_Model_limit_10 rfl rfl ?_
    refine aw_iconst (v := 1) d_Model_limit_11 (by decide) ?_
    refine aw_iconst (v := 4) d_Model_limit_12 (by decide) ?_
    obtain ⟨t13, e_t13, h⟩ := q_bind h
    refine aw_cS (v := (some (.int t13))) (As := [.int a2, .int (1 : Int32), .int (4 : Int32)]) (rest := [.ref a0]) (st' := [.int t13, .ref a0]) d_Model_limit_13 kS_Model_180 ⟨Nat.le_of_ble_eq_true rfl, Nat.le_of_ble_eq_true rfl, Nat.le_of_ble_eq_true rfl, Nat.le_of_ble_eq_true rfl⟩ rfl rfl (Nat.le_of_ble_eq_true rfl) rfl (mt_Model_within e_t13) ?_
    refine aw_if_eq (tgt := 31) d_Model_limit_16 (by decide) (fun hc => ?_) (fun hc => ?_)
    · rw [if_pos hc] at h
      exact aw_pick [0, 1, 2, 3] rfl (ih_0 _ _ _ _ _ _ _ _ h)
    · rw [if_neg hc] at h
      refine aw_iload_n d_Model_limit_19 rfl rfl ?_
      refine aw_bipush (v := 60) d_Model_limit_20 (by decide) ?_
      refine aw_sipush (v := 1440) d_Model_limit_22 (by decide) ?_
      obtain ⟨t25, e_t25, h⟩ := q_bind h
      refine aw_cS (v := (some (.int t25))) (As := [.int a3, .int (60 : Int32), .int (1440 : Int32)]) (rest := [.ref a0]) (st' := [.int t25, .ref a0]) d_Model_limit_25 kS_Model_180 ⟨Nat.le_of_ble_eq_true rfl, Nat.le_of_ble_eq_true rfl, Nat.le_of_ble_eq_true rfl, Nat.le_of_ble_eq_true rfl⟩ rfl rfl (Nat.le_of_ble_eq_true rfl) rfl (mt_Model_within e_t25) ?_
      refine aw_if_ne (tgt := 35) d_Model_limit_28 (by decide) (fun hc => ?_) (fun hc => ?_)
      · rw [if_neg hc] at h
        refine aw_iconst (v := 0) d_Model_limit_35 (by decide) ?_
        exact aw_pick [0, 1, 2, 3] rfl (ih_1 _ _ _ _ _ _ _ _ h)
      · rw [if_pos hc] at h
        exact aw_pick [0, 1, 2, 3] rfl (ih_0 _ _ _ _ _ _ _ _ h)
def y_Model_crew : MethodName := ⟨"CrewOfficeModel", "crew", "(IIIII)V"⟩
def u_Model_crew : am_U := ("CrewOfficeModel", "crew", prog_12_method_20_code, 6, none, [])
def R_Model_crew : Room := { frames := 3, cells := 0, slots := 0, locals := 62 }
theorem d_Model_crew_0 : decode u_Model_crew.2.2.1 0 = .ok (.aload_n 0, 1) := by decide +kernel
theorem d_Model_crew_1 : decode u_Model_crew.2.2.1 1 = .ok (.iload_n 1, 1) := by decide +kernel
theorem d_Model_crew_2 : decode u_Model_crew.2.2.1 2 = .ok (.iconst 0, 1) := by decide +kernel
theorem d_Model_crew_3 : decode u_Model_crew.2.2.1 3 = .ok (.iconst 3, 1) := by decide +kernel
theorem d_Model_crew_4 : decode u_Model_crew.2.2.1 4 = .ok (.invokestatic 180, 3) := by decide +kernel
theorem d_Model_crew_7 : decode u_Model_crew.2.2.1 7 = .ok (.ifCond .eq 45, 3) := by decide +kernel
theorem d_Model_crew_10 : decode u_Model_crew.2.2.1 10 = .ok (.iload_n 2, 1) := by decide +kernel
theorem d_Model_crew_11 : decode u_Model_crew.2.2.1 11 = .ok (.iconst 0, 1) := by decide +kernel
theorem d_Model_crew_12 : decode u_Model_crew.2.2.1 12 = .ok (.iconst 4, 1) := by decide +kernel
theorem d_Model_crew_13 : decode u_Model_crew.2.2.1 13 = .ok (.invokestatic 180, 3) := by decide +kernel
theorem d_Model_crew_16 : decode u_Model_crew.2.2.1 16 = .ok (.ifCond .eq 36, 3) := by decide +kernel
theorem d_Model_crew_19 : decode u_Model_crew.2.2.1 19 = .ok (.iload_n 3, 1) := by decide +kernel
theorem d_Model_crew_20 : decode u_Model_crew.2.2.1 20 = .ok (.iconst 0, 1) := by decide +kernel
theorem d_Model_crew_21 : decode u_Model_crew.2.2.1 21 = .ok (.bipush 99, 2) := by decide +kernel
theorem d_Model_crew_23 : decode u_Model_crew.2.2.1 23 = .ok (.invokestatic 180, 3) := by decide +kernel
theorem d_Model_crew_26 : decode u_Model_crew.2.2.1 26 = .ok (.ifCond .eq 26, 3) := by decide +kernel
theorem d_Model_crew_29 : decode u_Model_crew.2.2.1 29 = .ok (.iload 4, 2) := by decide +kernel
theorem d_Model_crew_31 : decode u_Model_crew.2.2.1 31 = .ok (.iconst 0, 1) := by decide +kernel
theorem d_Model_crew_32 : decode u_Model_crew.2.2.1 32 = .ok (.bipush 7, 2) := by decide +kernel
theorem d_Model_crew_34 : decode u_Model_crew.2.2.1 34 = .ok (.invokestatic 180, 3) := by decide +kernel
theorem d_Model_crew_37 : decode u_Model_crew.2.2.1 37 = .ok (.ifCond .eq 15, 3) := by decide +kernel
theorem d_Model_crew_40 : decode u_Model_crew.2.2.1 40 = .ok (.iload 5, 2) := by decide +kernel
theorem d_Model_crew_42 : decode u_Model_crew.2.2.1 42 = .ok (.iconst 0, 1) := by decide +kernel
theorem d_Model_crew_43 : decode u_Model_crew.2.2.1 43 = .ok (.sipush 20000, 3) := by decide +kernel
theorem d_Model_crew_46 : decode u_Model_crew.2.2.1 46 = .ok (.invokestatic 180, 3) := by decide +kernel
theorem d_Model_crew_49 : decode u_Model_crew.2.2.1 49 = .ok (.ifCond .ne 7, 3) := by decide +kernel
theorem d_Model_crew_52 : decode u_Model_crew.2.2.1 52 = .ok (.iconst 1, 1) := by decide +kernel
theorem d_Model_crew_53 : decode u_Model_crew.2.2.1 53 = .ok (.goto 4, 3) := by decide +kernel
theorem d_Model_crew_56 : decode u_Model_crew.2.2.1 56 = .ok (.iconst 0, 1) := by decide +kernel
theorem d_Model_crew_57 : decode u_Model_crew.2.2.1 57 = .ok (.iconst 1, 1) := by decide +kernel
theorem d_Model_crew_58 : decode u_Model_crew.2.2.1 58 = .ok (.invokevirtual 184, 3) := by decide +kernel
theorem d_Model_crew_61 : decode u_Model_crew.2.2.1 61 = .ok (.ifCond .eq 4, 3) := by decide +kernel
theorem d_Model_crew_64 : decode u_Model_crew.2.2.1 64 = .ok (.return_, 1) := by decide +kernel
theorem d_Model_crew_65 : decode u_Model_crew.2.2.1 65 = .ok (.aload_n 0, 1) := by decide +kernel
theorem d_Model_crew_66 : decode u_Model_crew.2.2.1 66 = .ok (.getfield 45, 3) := by decide +kernel
theorem d_Model_crew_69 : decode u_Model_crew.2.2.1 69 = .ok (.iload_n 1, 1) := by decide +kernel
theorem d_Model_crew_70 : decode u_Model_crew.2.2.1 70 = .ok (.iconst 1, 1) := by decide +kernel
theorem d_Model_crew_71 : decode u_Model_crew.2.2.1 71 = .ok (.bastore, 1) := by decide +kernel
theorem d_Model_crew_72 : decode u_Model_crew.2.2.1 72 = .ok (.aload_n 0, 1) := by decide +kernel
theorem d_Model_crew_73 : decode u_Model_crew.2.2.1 73 = .ok (.getfield 48, 3) := by decide +kernel
theorem d_Model_crew_76 : decode u_Model_crew.2.2.1 76 = .ok (.iload_n 1, 1) := by decide +kernel
theorem d_Model_crew_77 : decode u_Model_crew.2.2.1 77 = .ok (.iload_n 2, 1) := by decide +kernel
theorem d_Model_crew_78 : decode u_Model_crew.2.2.1 78 = .ok (.iastore, 1) := by decide +kernel
theorem d_Model_crew_79 : decode u_Model_crew.2.2.1 79 = .ok (.aload_n 0, 1) := by decide +kernel
theorem d_Model_crew_80 : decode u_Model_crew.2.2.1 80 = .ok (.getfield 51, 3) := by decide +kernel
theorem d_Model_crew_83 : decode u_Model_crew.2.2.1 83 = .ok (.iload_n 1, 1) := by decide +kernel
theorem d_Model_crew_84 : decode u_Model_crew.2.2.1 84 = .ok (.iload_n 3, 1) := by decide +kernel
theorem d_Model_crew_85 : decode u_Model_crew.2.2.1 85 = .ok (.iastore, 1) := by decide +kernel
theorem d_Model_crew_86 : decode u_Model_crew.2.2.1 86 = .ok (.aload_n 0, 1) := by decide +kernel
theorem d_Model_crew_87 : decode u_Model_crew.2.2.1 87 = .ok (.getfield 54, 3) := by decide +kernel
theorem d_Model_crew_90 : decode u_Model_crew.2.2.1 90 = .ok (.iload_n 1, 1) := by decide +kernel
theorem d_Model_crew_91 : decode u_Model_crew.2.2.1 91 = .ok (.iload 4, 2) := by decide +kernel
theorem d_Model_crew_93 : decode u_Model_crew.2.2.1 93 = .ok (.iastore, 1) := by decide +kernel
theorem d_Model_crew_94 : decode u_Model_crew.2.2.1 94 = .ok (.aload_n 0, 1) := by decide +kernel
theorem d_Model_crew_95 : decode u_Model_crew.2.2.1 95 = .ok (.getfield 57, 3) := by decide +kernel
theorem d_Model_crew_98 : decode u_Model_crew.2.2.1 98 = .ok (.iload_n 1, 1) := by decide +kernel
theorem d_Model_crew_99 : decode u_Model_crew.2.2.1 99 = .ok (.iload 5, 2) := by decide +kernel
theorem d_Model_crew_101 : decode u_Model_crew.2.2.1 101 = .ok (.iastore, 1) := by decide +kernel
theorem d_Model_crew_102 : decode u_Model_crew.2.2.1 102 = .ok (.aload_n 0, 1) := by decide +kernel
theorem d_Model_crew_103 : decode u_Model_crew.2.2.1 103 = .ok (.getfield 60, 3) := by decide +kernel
theorem d_Model_crew_106 : decode u_Model_crew.2.2.1 106 = .ok (.iload_n 1, 1) := by decide +kernel
theorem d_Model_crew_107 : decode u_Model_crew.2.2.1 107 = .ok (.iconst 0, 1) := by decide +kernel
theorem d_Model_crew_108 : decode u_Model_crew.2.2.1 108 = .ok (.iastore, 1) := by decide +kernel
theorem d_Model_crew_109 : decode u_Model_crew.2.2.1 109 = .ok (.aload_n 0, 1) := by decide +kernel
theorem d_Model_crew_110 : decode u_Model_crew.2.2.1 110 = .ok (.getfield 63, 3) := by decide +kernel
theorem d_Model_crew_113 : decode u_Model_crew.2.2.1 113 = .ok (.iload_n 1, 1) := by decide +kernel
theorem d_Model_crew_114 : decode u_Model_crew.2.2.1 114 = .ok (.iconst 0, 1) := by decide +kernel
theorem d_Model_crew_115 : decode u_Model_crew.2.2.1 115 = .ok (.iastore, 1) := by decide +kernel
theorem d_Model_crew_116 : decode u_Model_crew.2.2.1 116 = .ok (.aload_n 0, 1) := by decide +kernel
theorem d_Model_crew_117 : decode u_Model_crew.2.2.1 117 = .ok (.getfield 66, 3) := by decide +kernel
theorem d_Model_crew_120 : decode u_Model_crew.2.2.1 120 = .ok (.iload_n 1, 1) := by decide +kernel
theorem d_Model_crew_121 : decode u_Model_crew.2.2.1 121 = .ok (.iconst 0, 1) := by decide +kernel
theorem d_Model_crew_122 : decode u_Model_crew.2.2.1 122 = .ok (.iastore, 1) := by decide +kernel
theorem d_Model_crew_123 : decode u_Model_crew.2.2.1 123 = .ok (.aload_n 0, 1) := by decide +kernel
theorem d_Model_crew_124 : decode u_Model_crew.2.2.1 124 = .ok (.invokevirtual 188, 3) := by decide +kernel
theorem d_Model_crew_127 : decode u_Model_crew.2.2.1 127 = .ok (.return_, 1) := by decide +kernel
theorem w_Model_crew : am_code y_Model_crew u_Model_crew ∈ am_ws := am_mem (List.mem_of_getElem? (i := 1227) (by decide +kernel)) rfl
def a_Model_crew_0 (rc : Nat → Nat → Int32 → Int32 → Int32 → Int32 → Int32 → Int32 → Nat → Nat → am_M → Option (Unit × am_M)) (r0 : Nat) (x1 : Int32) (x2 : Int32) (x3 : Int32) (x4 : Int32) (x5 : Int32) (s0 : Int32) (sr0 : Nat) (sr1 : Nat) (M : am_M) : Option (Unit × am_M) := rc 1 r0 x1 x2 x3 x4 x5 (1 : Int32) 0 sr0 M
def a_Model_crew_1 (rc : Nat → Nat → Int32 → Int32 → Int32 → Int32 → Int32 → Int32 → Nat → Nat → am_M → Option (Unit × am_M)) (r0 : Nat) (x1 : Int32) (x2 : Int32) (x3 : Int32) (x4 : Int32) (x5 : Int32) (s0 : Int32) (sr0 : Nat) (sr1 : Nat) (M : am_M) : Option (Unit × am_M) := (q_ob M sr1 10).bind (fun o58 => (f_Model_fails M sr1 s0 (1 : Int32)).bind (fun p58 => if p58.1 = 0 then ((q_gtr p58.2 r0 10 12).bind (fun t66 => (q_stz p58.2 t66 x1 (1 : Int32)).bind (fun M71 => (q_gtr M71 r0 10 13).bind (fun t73 => (q_sti M71 t73 x1 x2).bind (fun M78 => (q_gtr M78 r0 10 14).bind (fun t80 => (q_sti M78 t80 x1 x3).bind (fun M85 => (q_gtr M85 r0 10 15).bind (fun t87 => (q_sti M85 t87 x1 x4).bind (fun M93 => (q_gtr M93 r0 10 16).bind (fun t95 => (q_sti M93 t95 x1 x5).bind (fun M101 => (q_gtr M101 r0 10 17).bind (fun t103 => (q_sti M101 t103 x1 (0 : Int32)).bind (fun M108 => (q_gtr M108 r0 10 18).bind (fun t110 => (q_sti M108 t110 x1 (0 : Int32)).bind (fun M115 => (q_gtr M115 r0 10 19).bind (fun t117 => (q_sti M115 t117 x1 (0 : Int32)).bind (fun M122 => (q_ob M122 r0 10).bind (fun o124 => (f_Model_loses M122 r0).bind (fun p124 => some ((), p124.2)))))))))))))))))))) else (some ((), p58.2))))
def g_Model_crew : Nat → Nat → Nat → Int32 → Int32 → Int32 → Int32 → Int32 → Int32 → Nat → Nat → am_M → Option (Unit × am_M)
  | 0, _, _, _, _, _, _, _, _, _, _, _ => none
  | F + 1, 0, r0, x1, x2, x3, x4, x5, s0, sr0, sr1, M => a_Model_crew_0 (g_Model_crew F) r0 x1 x2 x3 x4 x5 s0 sr0 sr1 M
  | F + 1, 1, r0, x1, x2, x3, x4, x5, s0, sr0, sr1, M => a_Model_crew_1 (g_Model_crew F) r0 x1 x2 x3 x4 x5 s0 sr0 sr1 M
  | _ + 1, _ + 2, _, _, _, _, _, _, _, _, _, _ => none
def e_Model_crew (rc : Nat → Nat → Int32 → Int32 → Int32 → Int32 → Int32 → Int32 → Nat → Nat → am_M → Option (Unit × am_M)) (M : am_M) (a0 : Nat) (a1 : Int32) (a2 : Int32) (a3 : Int32) (a4 : Int32) (a5 : Int32) : Option (Unit × am_M) := (f_Model_within M a1 (0 : Int32) (3 : Int32)).bind (fun t4 => if t4 = 0 then (rc 0 a0 a1 a2 a3 a4 a5 0 a0 0 M) else ((f_Model_within M a2 (0 : Int32) (4 : Int32)).bind (fun t13 => if t13 = 0 then (rc 0 a0 a1 a2 a3 a4 a5 0 a0 0 M) else ((f_Model_within M a3 (0 : Int32) (99 : Int32)).bind (fun t23 => if t23 = 0 then (rc 0 a0 a1 a2 a3 a4 a5 0 a0 0 M) else ((f_Model_within M a4 (0 : Int32) (7 : Int32)).bind (fun t34 => if t34 = 0 then (rc 0 a0 a1 a2 a3 a4 a5 0 a0 0 M) else ((f_Model_within M a5 (0 : Int32) (20000 : Int32)).bind (fun t46 => if t46 = 0 then (rc 0 a0 a1 a2 a3 a4 a5 0 a0 0 M) else (rc 1 a0 a1 a2 a3 a4 a5 (0 : Int32) 0 a0 M))))))))))
def f_Model_crew (M : am_M) (a0 : Nat) (a1 : Int32) (a2 : Int32) (a3 : Int32) (a4 : Int32) (a5 : Int32) : Option (Unit × am_M) := e_Model_crew (g_Model_crew 1000000000) M a0 a1 a2 a3 a4 a5
set_option maxHeartbeats 4000000 in
theorem s_Model_crew_0 {rc : Nat → Nat → Int32 → Int32 → Int32 → Int32 → Int32 → Int32 → Nat → Nat → am_M → Option (Unit × am_M)} {res : Unit} {M' : am_M} (ih_0 : ∀ (r0 : Nat) (x1 : Int32) (x2 : Int32) (x3 : Int32) (x4 : Int32) (x5 : Int32) (s0 : Int32) (sr0 : Nat) (sr1 : Nat) (M : am_M), rc 0 r0 x1 x2 x3 x4 x5 s0 sr0 sr1 M = some (res, M') → AW u_Model_crew R_Model_crew 0 0 52 [(0, .ref r0), (1, .int x1), (2, .int x2), (3, .int x3), (4, .int x4), (5, .int x5)] [.ref sr0] M (fun r M2 => r = .inl none ∧ M2 = M')) (ih_1 : ∀ (r0 : Nat) (x1 : Int32) (x2 : Int32) (x3 : Int32) (x4 : Int32) (x5 : Int32) (s0 : Int32) (sr0 : Nat) (sr1 : Nat) (M : am_M), rc 1 r0 x1 x2 x3 x4 x5 s0 sr0 sr1 M = some (res, M') → AW u_Model_crew R_Model_crew 0 0 57 [(0, .ref r0), (1, .int x1), (2, .int x2), (3, .int x3), (4, .int x4), (5, .int x5)] [.int s0, .ref sr1] M (fun r M2 => r = .inl none ∧ M2 = M')) : ∀ (r0 : Nat) (x1 : Int32) (x2 : Int32) (x3 : Int32) (x4 : Int32) (x5 : Int32) (s0 : Int32) (sr0 : Nat) (sr1 : Nat) (M : am_M), a_Model_crew_0 rc r0 x1 x2 x3 x4 x5 s0 sr0 sr1 M = some (res, M') → AW u_Model_crew R_Model_crew 0 0 52 [(0, .ref r0), (1, .int x1), (2, .int x2), (3, .int x3), (4, .int x4), (5, .int x5)] [.ref sr0] M (fun r M2 => r = .inl none ∧ M2 = M') := by
  intro r0 x1 x2 x3 x4 x5 s0 sr0 sr1 M h
  unfold a_Model_crew_0 at h
  refine aw_iconst (v := 1) d_Model_crew_52 (by decide) ?_
  refine aw_goto (tgt := 57) d_Model_crew_53 (by decide) ?_
  exact aw_pick [0, 1, 2, 3, 4, 5] rfl (ih_1 _ _ _ _ _ _ _ _ _ _ h)
set_option maxHeartbeats 4000000 in
theorem s_Model_crew_1 {rc : Nat → Nat → Int32 → Int32 → Int32 → Int32 → Int32 → Int32 → Nat → Nat → am_M → Option (Unit × am_M)} {res : Unit} {M' : am_M} (ih_0 : ∀ (r0 : Nat) (x1 : Int32) (x2 : Int32) (x3 : Int32) (x4 : Int32) (x5 : Int32) (s0 : Int32) (sr0 : Nat) (sr1 : Nat) (M : am_M), rc 0 r0 x1 x2 x3 x4 x5 s0 sr0 sr1 M = some (res, M') → AW u_Model_crew R_Model_crew 0 0 52 [(0, .ref r0), (1, .int x1), (2, .int x2), (3, .int x3), (4, .int x4), (5, .int x5)] [.ref sr0] M (fun r M2 => r = .inl none ∧ M2 = M')) (ih_1 : ∀ (r0 : Nat) (x1 : Int32) (x2 : Int32) (x3 : Int32) (x4 : Int32) (x5 : Int32) (s0 : Int32) (sr0 : Nat) (sr1 : Nat) (M : am_M), rc 1 r0 x1 x2 x3 x4 x5 s0 sr0 sr1 M = some (res, M') → AW u_Model_crew R_Model_crew 0 0 57 [(0, .ref r0), (1, .int x1), (2, .int x2), (3, .int x3), (4, .int x4), (5, .int x5)] [.int s0, .ref sr1] M (fun r M2 => r = .inl none ∧ M2 = M')) : ∀ (r0 : Nat) (x1 : Int32) (x2 : Int32) (x3 : Int32) (x4 : Int32) (x5 : Int32) (s0 : Int32) (sr0 : Nat) (sr1 : Nat) (M : am_M), a_Model_crew_1 rc r0 x1 x2 x3 x4 x5 s0 sr0 sr1 M = some (res, M') → AW u_Model_crew R_Model_crew 0 0 57 [(0, .ref r0), (1, .int x1), (2, .int x2), (3, .int x3), (4, .int x4), (5, .int x5)] [.int s0, .ref sr1] M (fun r M2 => r = .inl none ∧ M2 = M') := by
  intro r0 x1 x2 x3 x4 x5 s0 sr0 sr1 M h
  unfold a_Model_crew_1 at h
  refine aw_iconst (v := 1) d_Model_crew_57 (by decide) ?_
  obtain ⟨o58, e_o58, h⟩ := q_bind h
  obtain ⟨⟨t58, M58⟩, e_t58, h⟩ := q_bind h
  dsimp only at h
  refine aw_cV (v := (some (.int t58))) (As := [.int s0, .int (1 : Int32)]) (rest := []) (st' := [.int t58]) d_Model_crew_58 kV_Model_184 (q_ob_spec e_o58).1 (q_ob_spec e_o58).2 ⟨Nat.le_of_ble_eq_true rfl, Nat.le_of_ble_eq_true rfl, Nat.le_of_ble_eq_true rfl, Nat.le_of_ble_eq_true rfl⟩ rfl rfl (Nat.le_of_ble_eq_true rfl) rfl (mt_Model_fails e_t58) ?_
  refine aw_if_eq (tgt := 65) d_Model_crew_61 (by decide) (fun hc => ?_) (fun hc => ?_)
  · rw [if_pos hc] at h
    refine aw_aload_n d_Model_crew_65 rfl rfl ?_
    obtain ⟨t66, e_t66, h⟩ := q_bind h
    refine aw_gtr d_Model_crew_66 fl_Model_45 (Or.inr ⟨_, rfl⟩) e_t66 ?_
    refine aw_iload_n d_Model_crew_69 rfl rfl ?_
    refine aw_iconst (v := 1) d_Model_crew_70 (by decide) ?_
    obtain ⟨M71, e_M71, h⟩ := q_bind h
    refine aw_stz d_Model_crew_71 e_M71 ?_
    refine aw_aload_n d_Model_crew_72 rfl rfl ?_
    obtain ⟨t73, e_t73, h⟩ := q_bind h
    refine aw_gtr d_Model_crew_73 fl_Model_48 (Or.inr ⟨_, rfl⟩) e_t73 ?_
    refine aw_iload_n d_Model_crew_76 rfl rfl ?_
    refine aw_iload_n d_Model_crew_77 rfl rfl ?_
    obtain ⟨M78, e_M78, h⟩ := q_bind h
    refine aw_sti d_Model_crew_78 e_M78 ?_
    refine aw_aload_n d_Model_crew_79 rfl rfl ?_
    obtain ⟨t80, e_t80, h⟩ := q_bind h
    refine aw_gtr d_Model_crew_80 fl_Model_51 (Or.inr ⟨_, rfl⟩) e_t80 ?_
    refine aw_iload_n d_Model_crew_83 rfl rfl ?_
    refine aw_iload_n d_Model_crew_84 rfl rfl ?_
    obtain ⟨M85, e_M85, h⟩ := q_bind h
    refine aw_sti d_Model_crew_85 e_M85 ?_
    refine aw_aload_n d_Model_crew_86 rfl rfl ?_
    obtain ⟨t87, e_t87, h⟩ := q_bind h
    refine aw_gtr d_Model_crew_87 fl_Model_54 (Or.inr ⟨_, rfl⟩) e_t87 ?_
    refine aw_iload_n d_Model_crew_90 rfl rfl ?_
    refine aw_iload d_Model_crew_91 rfl ?_
    obtain ⟨M93, e_M93, h⟩ := q_bind h
    refine aw_sti d_Model_crew_93 e_M93 ?_
    refine aw_aload_n d_Model_crew_94 rfl rfl ?_
    obtain ⟨t95, e_t95, h⟩ := q_bind h
    refine aw_gtr d_Model_crew_95 fl_Model_57 (Or.inr ⟨_, rfl⟩) e_t95 ?_
    refine aw_iload_n d_Model_crew_98 rfl rfl ?_
    refine aw_iload d_Model_crew_99 rfl ?_
    obtain ⟨M101, e_M101, h⟩ := q_bind h
    refine aw_sti d_Model_crew_101 e_M101 ?_
    refine aw_aload_n d_Model_crew_102 rfl rfl ?_
    obtain ⟨t103, e_t103, h⟩ := q_bind h
    refine aw_gtr d_Model_crew_103 fl_Model_60 (Or.inr ⟨_, rfl⟩) e_t103 ?_
    refine aw_iload_n d_Model_crew_106 rfl rfl ?_
    refine aw_iconst (v := 0) d_Model_crew_107 (by decide) ?_
    obtain ⟨M108, e_M108, h⟩ := q_bind h
    refine aw_sti d_Model_crew_108 e_M108 ?_
    refine aw_aload_n d_Model_crew_109 rfl rfl ?_
    obtain ⟨t110, e_t110, h⟩ := q_bind h
    refine aw_gtr d_Model_crew_110 fl_Model_63 (Or.inr ⟨_, rfl⟩) e_t110 ?_
    refine aw_iload_n d_Model_crew_113 rfl rfl ?_
    refine aw_iconst (v := 0) d_Model_crew_114 (by decide) ?_
    obtain ⟨M115, e_M115, h⟩ := q_bind h
    refine aw_sti d_Model_crew_115 e_M115 ?_
    refine aw_aload_n d_Model_crew_116 rfl rfl ?_
    obtain ⟨t117, e_t117, h⟩ := q_bind h
    refine aw_gtr d_Model_crew_117 fl_Model_66 (Or.inr ⟨_, rfl⟩) e_t117 ?_
    refine aw_iload_n d_Model_crew_120 rfl rfl ?_
    refine aw_iconst (v := 0) d_Model_crew_121 (by decide) ?_
    obtain ⟨M122, e_M122, h⟩ := q_bind h
    refine aw_sti d_Model_crew_122 e_M122 ?_
    refine aw_aload_n d_Model_crew_123 rfl rfl ?_
    obtain ⟨o124, e_o124, h⟩ := q_bind h
    obtain ⟨⟨t124, M124⟩, e_t124, h⟩ := q_bind h
    dsimp only at h
    refine aw_cV (v := none) (As := []) (rest := []) (st' := []) d_Model_crew_124 kV_Model_188 (q_ob_spec e_o124).1 (q_ob_spec e_o124).2 ⟨Nat.le_of_ble_eq_true rfl, Nat.le_of_ble_eq_true rfl, Nat.le_of_ble_eq_true rfl, Nat.le_of_ble_eq_true rfl⟩ rfl rfl (Nat.le_of_ble_eq_true rfl) rfl (mt_Model_loses e_t124) ?_
    cases h
    exact aw_vreturn d_Model_crew_127 rfl (Nat.le_of_ble_eq_true rfl) (Nat.le_of_ble_eq_true rfl) ⟨rfl, rfl⟩
  · rw [if_neg hc] at h
    cases h
    exact aw_vreturn d_Model_crew_64 rfl (Nat.le_of_ble_eq_true rfl) (Nat.le_of_ble_eq_true rfl) ⟨rfl, rfl⟩
theorem l_Model_crew {res : Unit} {M' : am_M} : ∀ F : Nat, (∀ (r0 : Nat) (x1 : Int32) (x2 : Int32) (x3 : Int32) (x4 : Int32) (x5 : Int32) (s0 : Int32) (sr0 : Nat) (sr1 : Nat) (M : am_M), g_Model_crew F 0 r0 x1 x2 x3 x4 x5 s0 sr0 sr1 M = some (res, M') → AW u_Model_crew R_Model_crew 0 0 52 [(0, .ref r0), (1, .int x1), (2, .int x2), (3, .int x3), (4, .int x4), (5, .int x5)] [.ref sr0] M (fun r M2 => r = .inl none ∧ M2 = M')) ∧ (∀ (r0 : Nat) (x1 : Int32) (x2 : Int32) (x3 : Int32) (x4 : Int32) (x5 : Int32) (s0 : Int32) (sr0 : Nat) (sr1 : Nat) (M : am_M), g_Model_crew F 1 r0 x1 x2 x3 x4 x5 s0 sr0 sr1 M = some (res, M') → AW u_Model_crew R_Model_crew 0 0 57 [(0, .ref r0), (1, .int x1), (2, .int x2), (3, .int x3), (4, .int x4), (5, .int x5)] [.int s0, .ref sr1] M (fun r M2 => r = .inl none ∧ M2 = M')) := by
  intro F
  induction F with
  | zero => exact ⟨fun _ _ _ _ _ _ _ _ _ _  h => (by cases h), fun _ _ _ _ _ _ _ _ _ _  h => (by cases h)⟩
  | succ F ih =>
    obtain ⟨ih0, ih1⟩ := ih
    exact ⟨s_Model_crew_0 ih0 ih1, s_Model_crew_1 ih0 ih1⟩
set_option maxHeartbeats 4000000 in
theorem mt_Model_crew {M : am_M} {a0 : Nat} {a1 : Int32} {a2 : Int32} {a3 : Int32} {a4 : Int32} {a5 : Int32} {res : Unit} {M' : am_M} (h : f_Model_crew M a0 a1 a2 a3 a4 a5 = some (res, M')) : AMet y_Model_crew u_Model_crew R_Model_crew [.ref a0, .int a1, .int a2, .int a3, .int a4, .int a5] M (fun r M2 => r = .inl none ∧ M2 = M') := by
  refine am_met (by decide +kernel) w_Model_crew rfl rfl (Nat.le_of_ble_eq_true rfl) ?_
  show AW u_Model_crew R_Model_crew 0 0 0 [(0, .ref a0), (1, .int a1), (2, .int a2), (3, .int a3), (4, .int a4), (5, .int a5)] [] M (fun r M2 => r = .inl none ∧ M2 = M')
  have ih_0 := (l_Model_crew (res := res) (M' := M') 1000000000).1
  have ih_1 := (l_Model_crew (res := res) (M' := M') 1000000000).2
  unfold f_Model_crew at h
  unfold e_Model_crew at h
  generalize g_Model_crew 1000000000 = rc at h ih_0 ih_1
  refine aw_aload_n d_Model_crew_0 rfl rfl ?_
  refine aw_iload_n d_Model_crew_1 rfl rfl ?_
  refine aw_iconst (v := 0) d_Model_crew_2 (by decide) ?_
  refine aw_iconst (v := 3) d_Model_crew_3 (by decide) ?_
  obtain ⟨t4, e_t4, h⟩ := q_bind h
  refine aw_cS (v := (some (.int t4))) (As := [.int a1, .int (0 : Int32), .int (3 : Int32)]) (rest := [.ref a0]) (st' := [.int t4, .ref a0]) d_Model_crew_4 kS_Model_180 ⟨Nat.le_of_ble_eq_true rfl, Nat.le_of_ble_eq_true rfl, Nat.le_of_ble_eq_true rfl, Nat.le_of_ble_eq_true rfl⟩ rfl rfl (Nat.le_of_ble_eq_true rfl) rfl (mt_Model_within e_t4) ?_
  refine aw_if_eq (tgt := 52) d_Model_crew_7 (by decide) (fun hc => ?_) (fun hc => ?_)
  · rw [if_pos hc] at h
    exact aw_pick [0, 1, 2, 3, 4, 5] rfl (ih_0 _ _ _ _ _ _ _ _ _ _ h)
  · rw [if_neg hc] at h
    refine aw_iload_n d_Model_crew_10 rfl rfl ?_
    refine aw_iconst (v := 0) d_Model_crew_11 (by decide) ?_
    refine aw_iconst (v := 4) d_Model_crew_12 (by decide) ?_
    obtain ⟨t13, e_t13, h⟩ := q_bind h
    refine aw_cS (v := (some (.int t13))) (As := [.int a2, .int (0 : Int32), .int (4 : Int32)]) (rest := [.ref a0]) (st' := [.int t13, .ref a0]) d_Model_crew_13 kS_Model_180 ⟨Nat.le_of_ble_eq_true rfl, Nat.le_of_ble_eq_true rfl, Nat.le_of_ble_eq_true rfl, Nat.le_of_ble_eq_true rfl⟩ rfl rfl (Nat.le_of_ble_eq_true rfl) rfl (mt_Model_within e_t13) ?_
    refine aw_if_eq (tgt := 52) d_Model_crew_16 (by decide) (fun hc => ?_) (fun hc => ?_)
    · rw [if_pos hc] at h
      exact aw_pick [0, 1, 2, 3, 4, 5] rfl (ih_0 _ _ _ _ _ _ _ _ _ _ h)
    · rw [if_neg hc] at h
      refine aw_iload_n d_Model_crew_19 rfl rfl ?_
      refine aw_iconst (v := 0) d_Model_crew_20 (by decide) ?_
      refine aw_bipush (v := 99) d_Model_crew_21 (by decide) ?_
      obtain ⟨t23, e_t23, h⟩ := q_bind h
      refine aw_cS (v := (some (.int t23))) (As := [.int a3, .int (0 : Int32), .int (99 : Int32)]) (rest := [.ref a0]) (st' := [.int t23, .ref a0]) d_Model_crew_23 kS_Model_180 ⟨Nat.le_of_ble_eq_true rfl, Nat.le_of_ble_eq_true rfl, Nat.le_of_ble_eq_true rfl, Nat.le_of_ble_eq_true rfl⟩ rfl rfl (Nat.le_of_ble_eq_true rfl) rfl (mt_Model_within e_t23) ?_
      refine aw_if_eq (tgt := 52) d_Model_crew_26 (by decide) (fun hc => ?_) (fun hc => ?_)
      · rw [if_pos hc] at h
        exact aw_pick [0, 1, 2, 3, 4, 5] rfl (ih_0 _ _ _ _ _ _ _ _ _ _ h)
      · rw [if_neg hc] at h
        refine aw_iload d_Model_crew_29 rfl ?_
        refine aw_iconst (v := 0) d_Model_crew_31 (by decide) ?_
        refine aw_bipush (v := 7) d_Model_crew_32 (by decide) ?_
        obtain ⟨t34, e_t34, h⟩ := q_bind h
        refine aw_cS (v := (some (.int t34))) (As := [.int a4, .int (0 : Int32), .int (7 : Int32)]) (rest := [.ref a0]) (st' := [.int t34, .ref a0]) d_Model_crew_34 kS_Model_180 ⟨Nat.le_of_ble_eq_true rfl, Nat.le_of_ble_eq_true rfl, Nat.le_of_ble_eq_true rfl, Nat.le_of_ble_eq_true rfl⟩ rfl rfl (Nat.le_of_ble_eq_true rfl) rfl (mt_Model_within e_t34) ?_
        refine aw_if_eq (tgt := 52) d_Model_crew_37 (by decide) (fun hc => ?_) (fun hc => ?_)
        · rw [if_pos hc] at h
          exact aw_pick [0, 1, 2, 3, 4, 5] rfl (ih_0 _ _ _ _ _ _ _ _ _ _ h)
        · rw [if_neg hc] at h
          refine aw_iload d_Model_crew_40 rfl ?_
          refine aw_iconst (v := 0) d_Model_crew_42 (by decide) ?_
          refine aw_sipush (v := 20000) d_Model_crew_43 (by decide) ?_
          obtain ⟨t46, e_t46, h⟩ := q_bind h
          refine aw_cS (v := (some (.int t46))) (As := [.int a5, .int (0 : Int32), .int (20000 : Int32)]) (rest := [.ref a0]) (st' := [.int t46, .ref a0]) d_Model_crew_46 kS_Model_180 ⟨Nat.le_of_ble_eq_true rfl, Nat.le_of_ble_eq_true rfl, Nat.le_of_ble_eq_true rfl, Nat.le_of_ble_eq_true rfl⟩ rfl rfl (Nat.le_of_ble_eq_true rfl) rfl (mt_Model_within e_t46) ?_
          refine aw_if_ne (tgt := 56) d_Model_crew_49 (by decide) (fun hc => ?_) (fun hc => ?_)
          · rw [if_neg hc] at h
            refine aw_iconst (v := 0) d_Model_crew_56 (by decide) ?_
            exact aw_pick [0, 1, 2, 3, 4, 5] rfl (ih_1 _ _ _ _ _ _ _ _ _ _ h)
          · rw [if_pos hc] at h
            exact aw_pick [0, 1, 2, 3, 4, 5] rfl (ih_0 _ _ _ _ _ _ _ _ _ _ h)
