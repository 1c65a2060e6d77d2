-- Office_flight Office_drop Office_move Office_rule Office_limit Office_crew Office_off Office_score Sharing_bestSet
def y_Office_flight : MethodName := ⟨"CrewOffice", "flight", "(IIIIII)V"⟩
def u_Office_flight : am_U := ("CrewOffice", "flight", prog_1_method_3_code, 7, none, [])
def R_Office_flight : Room := { frames := 9, cells := 5, slots := 30, locals := 220 }
theorem d_Office_flight_0 : decode u_Office_flight.2.2.1 0 = .ok (.iload_n 1, 1) := by decide +kernel
theorem d_Office_flight_1 : decode u_Office_flight.2.2.1 1 = .ok (.iconst 0, 1) := by decide +kernel
theorem d_Office_flight_2 : decode u_Office_flight.2.2.1 2 = .ok (.bipush 11, 2) := by decide +kernel
theorem d_Office_flight_4 : decode u_Office_flight.2.2.1 4 = .ok (.invokestatic 50, 3) := by decide +kernel
theorem d_Office_flight_7 : decode u_Office_flight.2.2.1 7 = .ok (.invokestatic 54, 3) := by decide +kernel
theorem d_Office_flight_10 : decode u_Office_flight.2.2.1 10 = .ok (.iload_n 2, 1) := by decide +kernel
theorem d_Office_flight_11 : decode u_Office_flight.2.2.1 11 = .ok (.iconst 0, 1) := by decide +kernel
theorem d_Office_flight_12 : decode u_Office_flight.2.2.1 12 = .ok (.iconst 4, 1) := by decide +kernel
theorem d_Office_flight_13 : decode u_Office_flight.2.2.1 13 = .ok (.invokestatic 50, 3) := by decide +kernel
theorem d_Office_flight_16 : decode u_Office_flight.2.2.1 16 = .ok (.ifCond .eq 21, 3) := by decide +kernel
theorem d_Office_flight_19 : decode u_Office_flight.2.2.1 19 = .ok (.iload_n 3, 1) := by decide +kernel
theorem d_Office_flight_20 : decode u_Office_flight.2.2.1 20 = .ok (.iconst 0, 1) := by decide +kernel
theorem d_Office_flight_21 : decode u_Office_flight.2.2.1 21 = .ok (.iconst 4, 1) := by decide +kernel
theorem d_Office_flight_22 : decode u_Office_flight.2.2.1 22 = .ok (.invokestatic 50, 3) := by decide +kernel
theorem d_Office_flight_25 : decode u_Office_flight.2.2.1 25 = .ok (.ifCond .eq 12, 3) := by decide +kernel
theorem d_Office_flight_28 : decode u_Office_flight.2.2.1 28 = .ok (.iload_n 2, 1) := by decide +kernel
theorem d_Office_flight_29 : decode u_Office_flight.2.2.1 29 = .ok (.iload_n 3, 1) := by decide +kernel
theorem d_Office_flight_30 : decode u_Office_flight.2.2.1 30 = .ok (.if_icmp .eq 7, 3) := by decide +kernel
theorem d_Office_flight_33 : decode u_Office_flight.2.2.1 33 = .ok (.iconst 1, 1) := by decide +kernel
theorem d_Office_flight_34 : decode u_Office_flight.2.2.1 34 = .ok (.goto 4, 3) := by decide +kernel
theorem d_Office_flight_37 : decode u_Office_flight.2.2.1 37 = .ok (.iconst 0, 1) := by decide +kernel
theorem d_Office_flight_38 : decode u_Office_flight.2.2.1 38 = .ok (.invokestatic 54, 3) := by decide +kernel
theorem d_Office_flight_41 : decode u_Office_flight.2.2.1 41 = .ok (.iload 6, 2) := by decide +kernel
theorem d_Office_flight_43 : decode u_Office_flight.2.2.1 43 = .ok (.iconst 0, 1) := by decide +kernel
theorem d_Office_flight_44 : decode u_Office_flight.2.2.1 44 = .ok (.iconst 2, 1) := by decide +kernel
theorem d_Office_flight_45 : decode u_Office_flight.2.2.1 45 = .ok (.invokestatic 50, 3) := by decide +kernel
theorem d_Office_flight_48 : decode u_Office_flight.2.2.1 48 = .ok (.invokestatic 54, 3) := by decide +kernel
theorem d_Office_flight_51 : decode u_Office_flight.2.2.1 51 = .ok (.iload 4, 2) := by decide +kernel
theorem d_Office_flight_53 : decode u_Office_flight.2.2.1 53 = .ok (.ifCond .lt 22, 3) := by decide +kernel
theorem d_Office_flight_56 : decode u_Office_flight.2.2.1 56 = .ok (.iload 5, 2) := by decide +kernel
theorem d_Office_flight_58 : decode u_Office_flight.2.2.1 58 = .ok (.iload 4, 2) := by decide +kernel
theorem d_Office_flight_60 : decode u_Office_flight.2.2.1 60 = .ok (.if_icmp .le 15, 3) := by decide +kernel
theorem d_Office_flight_63 : decode u_Office_flight.2.2.1 63 = .ok (.iload 5, 2) := by decide +kernel
theorem d_Office_flight_65 : decode u_Office_flight.2.2.1 65 = .ok (.sipush 20160, 3) := by decide +kernel
theorem d_Office_flight_68 : decode u_Office_flight.2.2.1 68 = .ok (.if_icmp .gt 7, 3) := by decide +kernel
theorem d_Office_flight_71 : decode u_Office_flight.2.2.1 71 = .ok (.iconst 1, 1) := by decide +kernel
theorem d_Office_flight_72 : decode u_Office_flight.2.2.1 72 = .ok (.goto 4, 3) := by decide +kernel
theorem d_Office_flight_75 : decode u_Office_flight.2.2.1 75 = .ok (.iconst 0, 1) := by decide +kernel
theorem d_Office_flight_76 : decode u_Office_flight.2.2.1 76 = .ok (.invokestatic 54, 3) := by decide +kernel
theorem d_Office_flight_79 : decode u_Office_flight.2.2.1 79 = .ok (.iload 5, 2) := by decide +kernel
theorem d_Office_flight_81 : decode u_Office_flight.2.2.1 81 = .ok (.iload 4, 2) := by decide +kernel
theorem d_Office_flight_83 : decode u_Office_flight.2.2.1 83 = .ok (.isub, 1) := by decide +kernel
theorem d_Office_flight_84 : decode u_Office_flight.2.2.1 84 = .ok (.sipush 900, 3) := by decide +kernel
theorem d_Office_flight_87 : decode u_Office_flight.2.2.1 87 = .ok (.if_icmp .gt 7, 3) := by decide +kernel
theorem d_Office_flight_90 : decode u_Office_flight.2.2.1 90 = .ok (.iconst 1, 1) := by decide +kernel
theorem d_Office_flight_91 : decode u_Office_flight.2.2.1 91 = .ok (.goto 4, 3) := by decide +kernel
theorem d_Office_flight_94 : decode u_Office_flight.2.2.1 94 = .ok (.iconst 0, 1) := by decide +kernel
theorem d_Office_flight_95 : decode u_Office_flight.2.2.1 95 = .ok (.invokestatic 54, 3) := by decide +kernel
theorem d_Office_flight_98 : decode u_Office_flight.2.2.1 98 = .ok (.aload_n 0, 1) := by decide +kernel
theorem d_Office_flight_99 : decode u_Office_flight.2.2.1 99 = .ok (.getfield 10, 3) := by decide +kernel
theorem d_Office_flight_102 : decode u_Office_flight.2.2.1 102 = .ok (.getfield 71, 3) := by decide +kernel
theorem d_Office_flight_105 : decode u_Office_flight.2.2.1 105 = .ok (.iload_n 1, 1) := by decide +kernel
theorem d_Office_flight_106 : decode u_Office_flight.2.2.1 106 = .ok (.aaload, 1) := by decide +kernel
theorem d_Office_flight_107 : decode u_Office_flight.2.2.1 107 = .ok (.iload_n 2, 1) := by decide +kernel
theorem d_Office_flight_108 : decode u_Office_flight.2.2.1 108 = .ok (.iload_n 3, 1) := by decide +kernel
theorem d_Office_flight_109 : decode u_Office_flight.2.2.1 109 = .ok (.iload 4, 2) := by decide +kernel
theorem d_Office_flight_111 : decode u_Office_flight.2.2.1 111 = .ok (.iload 5, 2) := by decide +kernel
theorem d_Office_flight_113 : decode u_Office_flight.2.2.1 113 = .ok (.iload 6, 2) := by decide +kernel
theorem d_Office_flight_115 : decode u_Office_flight.2.2.1 115 = .ok (.invokevirtual 75, 3) := by decide +kernel
theorem d_Office_flight_118 : decode u_Office_flight.2.2.1 118 = .ok (.aload_n 0, 1) := by decide +kernel
theorem d_Office_flight_119 : decode u_Office_flight.2.2.1 119 = .ok (.invokevirtual 68, 3) := by decide +kernel
theorem d_Office_flight_122 : decode u_Office_flight.2.2.1 122 = .ok (.return_, 1) := by decide +kernel
theorem w_Office_flight : am_code y_Office_flight u_Office_flight ∈ am_ws := am_mem (List.mem_of_getElem? (i := 719) (by decide +kernel)) rfl
def a_Office_flight_0 (rc : Nat → Nat → Int32 → Int32 → Int32 → Int32 → Int32 → Int32 → Int32 → am_M → Option ((Unit ⊕ Nat) × am_M)) (r0 : Nat) (x1 : Int32) (x2 : Int32) (x3 : Int32) (x4 : Int32) (x5 : Int32) (x6 : Int32) (s0 : Int32) (M : am_M) : Option ((Unit ⊕ Nat) × am_M) := rc 1 r0 x1 x2 x3 x4 x5 x6 (0 : Int32) M
def a_Office_flight_1 (rc : Nat → Nat → Int32 → Int32 → Int32 → Int32 → Int32 → Int32 → Int32 → am_M → Option ((Unit ⊕ Nat) × am_M)) (r0 : Nat) (x1 : Int32) (x2 : Int32) (x3 : Int32) (x4 : Int32) (x5 : Int32) (x6 : Int32) (s0 : Int32) (M : am_M) : Option ((Unit ⊕ Nat) × am_M) := (f_Office_needArgument M s0).bind (fun p38 => q_try p38 (fun _ M38 => (f_Office_isWithin M38 x6 (0 : Int32) (2 : Int32)).bind (fun t45 => (f_Office_needArgument M38 t45).bind (fun p48 => q_try p48 (fun _ M48 => if x4 < 0 then (rc 2 r0 x1 x2 x3 x4 x5 x6 0 M48) else (if x5 ≤ x4 then (rc 2 r0 x1 x2 x3 x4 x5 x6 0 M48) else (if (20160 : Int32) < x5 then (rc 2 r0 x1 x2 x3 x4 x5 x6 0 M48) else (rc 3 r0 x1 x2 x3 x4 x5 x6 (1 : Int32) M48))))))))
def a_Office_flight_2 (rc : Nat → Nat → Int32 → Int32 → Int32 → Int32 → Int32 → Int32 → Int32 → am_M → Option ((Unit ⊕ Nat) × am_M)) (r0 : Nat) (x1 : Int32) (x2 : Int32) (x3 : Int32) (x4 : Int32) (x5 : Int32) (x6 : Int32) (s0 : Int32) (M : am_M) : Option ((Unit ⊕ Nat) × am_M) := rc 3 r0 x1 x2 x3 x4 x5 x6 (0 : Int32) M
def a_Office_flight_3 (rc : Nat → Nat → Int32 → Int32 → Int32 → Int32 → Int32 → Int32 → Int32 → am_M → Option ((Unit ⊕ Nat) × am_M)) (r0 : Nat) (x1 : Int32) (x2 : Int32) (x3 : Int32) (x4 : Int32) (x5 : Int32) (x6 : Int32) (s0 : Int32) (M : am_M) : Option ((Unit ⊕ Nat) × am_M) := (f_Office_needArgument M s0).bind (fun p76 => q_try p76 (fun _ M76 => if (900 : Int32) < (x5 - x4) then (rc 4 r0 x1 x2 x3 x4 x5 x6 (0 : Int32) M76) else (rc 4 r0 x1 x2 x3 x4 x5 x6 (1 : Int32) M76)))
def a_Office_flight_4 (rc : Nat → Nat → Int32 → Int32 → Int32 → Int32 → Int32 → Int32 → Int32 → am_M → Option ((Unit ⊕ Nat) × am_M)) (r0 : Nat) (x1 : Int32) (x2 : Int32) (x3 : Int32) (x4 : Int32) (x5 : Int32) (x6 : Int32) (s0 : Int32) (M : am_M) : Option ((Unit ⊕ Nat) × am_M) := (f_Office_needArgument M s0).bind (fun p95 => q_try p95 (fun _ M95 => (q_gtr M95 r0 9 0).bind (fun t99 => (q_gtr M95 t99 3 1).bind (fun t102 => (q_ldr M95 t102 x1).bind (fun t106 => (q_ob M95 t106 1).bind (fun o115 => (f_Leg_set M95 t106 x2 x3 x4 x5 x6).bind (fun p115 => (q_ob p115.2 r0 9).bind (fun o119 => (f_Office_forgetPairings p115.2 r0).bind (fun p119 => some (.inl (), p119.2))))))))))
def g_Office_flight : Nat → Nat → Nat → Int32 → Int32 → Int32 → Int32 → Int32 → Int32 → Int32 → am_M → Option ((Unit ⊕ Nat) × am_M)
  | 0, _, _, _, _, _, _, _, _, _, _ => none
  | F + 1, 0, r0, x1, x2, x3, x4, x5, x6, s0, M => a_Office_flight_0 (g_Office_flight F) r0 x1 x2 x3 x4 x5 x6 s0 M
  | F + 1, 1, r0, x1, x2, x3, x4, x5, x6, s0, M => a_Office_flight_1 (g_Office_flight F) r0 x1 x2 x3 x4 x5 x6 s0 M
  | F + 1, 2, r0, x1, x2, x3, x4, x5, x6, s0, M => a_Office_flight_2 (g_Office_flight F) r0 x1 x2 x3 x4 x5 x6 s0 M
  | F + 1, 3, r0, x1, x2, x3, x4, x5, x6, s0, M => a_Office_flight_3 (g_Office_flight F) r0 x1 x2 x3 x4 x5 x6 s0 M
  | F + 1, 4, r0, x1, x2, x3, x4, x5, x6, s0, M => a_Office_flight_4 (g_Office_flight F) r0 x1 x2 x3 x4 x5 x6 s0 M
  | _ + 1, _ + 5, _, _, _, _, _, _, _, _, _ => none
def e_Office_flight (rc : Nat → Nat → Int32 → Int32 → Int32 → Int32 → Int32 → Int32 → Int32 → am_M → Option ((Unit ⊕ Nat) × am_M)) (M : am_M) (a0 : Nat) (a1 : Int32) (a2 : Int32) (a3 : Int32) (a4 : Int32) (a5 : Int32) (a6 : Int32) : Option ((Unit ⊕ Nat) × am_M) := (f_Office_isWithin M a1 (0 : Int32) (11 : Int32)).bind (fun t4 => (f_Office_needArgument M t4).bind (fun p7 => q_try p7 (fun _ M7 => (f_Office_isWithin M7 a2 (0 : Int32) (4 : Int32)).bind (fun t13 => if t13 = 0 then (rc 0 a0 a1 a2 a3 a4 a5 a6 0 M7) else ((f_Office_isWithin M7 a3 (0 : Int32) (4 : Int32)).bind (fun t22 => if t22 = 0 then (rc 0 a0 a1 a2 a3 a4 a5 a6 0 M7) else (if a2 = a3 then (rc 0 a0 a1 a2 a3 a4 a5 a6 0 M7) else (rc 1 a0 a1 a2 a3 a4 a5 a6 (1 : Int32) M7))))))))
def f_Office_flight (M : am_M) (a0 : Nat) (a1 : Int32) (a2 : Int32) (a3 : Int32) (a4 : Int32) (a5 : Int32) (a6 : Int32) : Option ((Unit ⊕ Nat) × am_M) := e_Office_flight (g_Office_flight 1000000000) M a0 a1 a2 a3 a4 a5 a6
theorem fl_Office_71 : am_fl "CrewOffice" 71 3 1 := ⟨by decide, by decide, List.mem_of_getElem? (i := 222) (by decide +kernel)⟩
theorem kV_Office_75 : am_kV "CrewOffice" 75 1 y_Leg_set u_Leg_set 5 := ⟨List.mem_of_getElem? (i := 720) (by decide +kernel), ⟨List.mem_of_getElem? (i := 721) (by decide +kernel), List.mem_of_getElem? (i := 722) (by decide +kernel)⟩, List.mem_of_getElem? (i := 57) (by decide +kernel), w_Leg_set, ⟨⟨by decide +kernel, by decide +kernel⟩, by decide +kernel⟩⟩
set_option maxHeartbeats 4000000 in
theorem s_Office_flight_0 {rc : Nat → Nat → Int32 → Int32 → Int32 → Int32 → Int32 → Int32 → Int32 → am_M → Option ((Unit ⊕ Nat) × am_M)} {res : Unit ⊕ Nat} {M' : am_M} (ih_0 : ∀ (r0 : Nat) (x1 : Int32) (x2 : Int32) (x3 : Int32) (x4 : Int32) (x5 : Int32) (x6 : Int32) (s0 : Int32) (M : am_M), rc 0 r0 x1 x2 x3 x4 x5 x6 s0 M = some (res, M') → AW u_Office_flight R_Office_flight 1 6 37 [(0, .ref r0), (1, .int x1), (2, .int x2), (3, .int x3), (4, .int x4), (5, .int x5), (6, .int x6)] [] M (fun r M2 => r = am_rU res ∧ M2 = M')) (ih_1 : ∀ (r0 : Nat) (x1 : Int32) (x2 : Int32) (x3 : Int32) (x4 : Int32) (x5 : Int32) (x6 : Int32) (s0 : Int32) (M : am_M), rc 1 r0 x1 x2 x3 x4 x5 x6 s0 M = some (res, M') → AW u_Office_flight R_Office_flight 1 6 38 [(0, .ref r0), (1, .int x1), (2, .int x2), (3, .int x3), (4, .int x4), (5, .int x5), (6, .int x6)] [.int s0] M (fun r M2 => r = am_rU res ∧ M2 = M')) (ih_2 : ∀ (r0 : Nat) (x1 : Int32) (x2 : Int32) (x3 : Int32) (x4 : Int32) (x5 : Int32) (x6 : Int32) (s0 : Int32) (M : am_M), rc 2 r0 x1 x2 x3 x4 x5 x6 s0 M = some (res, M') → AW u_Office_flight R_Office_flight 3 18 75 [(0, .ref r0), (1, .int x1), (2, .int x2), (3, .int x3), (4, .int x4), (5, .int x5), (6, .int x6)] [] M (fun r M2 => r = am_rU res ∧ M2 = M')) (ih_3 : ∀ (r0 : Nat) (x1 : Int32) (x2 : Int32) (x3 : Int32) (x4 : Int32) (x5 : Int32) (x6 : Int32) (s0 : Int32) (M : am_M), rc 3 r0 x1 x2 x3 x4 x5 x6 s0 M = some (res, M') → AW u_Office_flight R_Office_flight 3 18 76 [(0, .ref r0), (1, .int x1), (2, .int x2), (3, .int x3), (4, .int x4), (5, .int x5), (6, .int x6)] [.int s0] M (fun r M2 => r = am_rU res ∧ M2 = M')) (ih_4 : ∀ (r0 : Nat) (x1 : Int32) (x2 : Int32) (x3 : Int32) (x4 : Int32) (x5 : Int32) (x6 : Int32) (s0 : Int32) (M : am_M), rc 4 r0 x1 x2 x3 x4 x5 x6 s0 M = some (res, M') → AW u_Office_flight R_Office_flight 4 24 95 [(0, .ref r0), (1, .int x1), (2, .int x2), (3, .int x3), (4, .int x4), (5, .int x5), (6, .int x6)] [.int s0] M (fun r M2 => r = am_rU res ∧ M2 = M')) : ∀ (r0 : Nat) (x1 : Int32) (x2 : Int32) (x3 : Int32) (x4 : Int32) (x5 : Int32) (x6 : Int32) (s0 : Int32) (M : am_M), a_Office_flight_0 rc r0 x1 x2 x3 x4 x5 x6 s0 M = some (res, M') → AW u_Office_flight R_Office_flight 1 6 37 [(0, .ref r0), (1, .int x1), (2, .int x2), (3, .int x3), (4, .int x4), (5, .int x5), (6, .int x6)] [] M (fun r M2 => r = am_rU res ∧ M2 = M') := by
  intro r0 x1 x2 x3 x4 x5 x6 s0 M h
  unfold a_Office_flight_0 at h
  refine aw_iconst (v := 0) d_Office_flight_37 (by decide) ?_
  exact aw_pick [0, 1, 2, 3, 4, 5, 6] rfl (ih_1 _ _ _ _ _ _ _ _ _ h)
set_option maxHeartbeats 4000000 in
theorem s_Office_flight_1 {rc : Nat → Nat → Int32 → Int32 → Int32 → Int32 → Int32 → Int32 → Int32 → am_M → Option ((Unit ⊕ Nat) × am_M)} {res : Unit ⊕ Nat} {M' : am_M} (ih_0 : ∀ (r0 : Nat) (x1 : Int32) (x2 : Int32) (x3 : Int32) (x4 : Int32) (x5 : Int32) (x6 : Int32) (s0 : Int32) (M : am_M), rc 0 r0 x1 x2 x3 x4 x5 x6 s0 M = some (res, M') → AW u_Office_flight R_Office_flight 1 6 37 [(0, .ref r0), (1, .int x1), (2, .int x2), (3, .int x3), (4, .int x4), (5, .int x5), (6, .int x6)] [] M (fun r M2 => r = am_rU res ∧ M2 = M')) (ih_1 : ∀ (r0 : Nat) (x1 : Int32) (x2 : Int32) (x3 : Int32) (x4 : Int32) (x5 : Int32) (x6 : Int32) (s0 : Int32) (M : am_M), rc 1 r0 x1 x2 x3 x4 x5 x6 s0 M = some (res, M') → AW u_Office_flight R_Office_flight 1 6 38 [(0, .ref r0), (1, .int x1), (2, .int x2), (3, .int x3), (4, .int x4), (5, .int x5), (6, .int x6)] [.int s0] M (fun r M2 => r = am_rU res ∧ M2 = M')) (ih_2 : ∀ (r0 : Nat) (x1 : Int32) (x2 : Int32) (x3 : Int32) (x4 : Int32) (x5 : Int32) (x6 : Int32) (s0 : Int32) (M : am_M), rc 2 r0 x1 x2 x3 x4 x5 x6 s0 M = some (res, M') → AW u_Office_flight R_Office_flight 3 18 75 [(0, .ref r0), (1, .int x1), (2, .int x2), (3, .int x3), (4, .int x4), (5, .int x5), (6, .int x6)] [] M (fun r M2 => r = am_rU res ∧ M2 = M')) (ih_3 : ∀ (r0 : Nat) (x1 : Int32) (x2 : Int32) (x3 : Int32) (x4 : Int32) (x5 : Int32) (x6 : Int32) (s0 : Int32) (M : am_M), rc 3 r0 x1 x2 x3 x4 x5 x6 s0 M = some (res, M') → AW u_Office_flight R_Office_flight 3 18 76 [(0, .ref r0), (1, .int x1), (2, .int x2), (3, .int x3), (4, .int x4), (5, .int x5), (6, .int x6)] [.int s0] M (fun r M2 => r = am_rU res ∧ M2 = M')) (ih_4 : ∀ (r0 : Nat) (x1 : Int32) (x2 : Int32) (x3 : Int32) (x4 : Int32) (x5 : Int32) (x6 : Int32) (s0 : Int32) (M : am_M), rc 4 r0 x1 x2 x3 x4 x5 x6 s0 M = some (res, M') → AW u_Office_flight R_Office_flight 4 24 95 [(0, .ref r0), (1, .int x1), (2, .int x2), (3, .int x3), (4, .int x4), (5, .int x5), (6, .int x6)] [.int s0] M (fun r M2 => r = am_rU res ∧ M2 = M')) : ∀ (r0 : Nat) (x1 : Int32) (x2 : Int32) (x3 : Int32) (x4 : Int32) (x5 : Int32) (x6 : Int32) (s0 : Int32) (M : am_M), a_Office_flight_1 rc r0 x1 x2 x3 x4 x5 x6 s0 M = some (res, M') → AW u_Office_flight R_Office_flight 1 6 38 [(0, .ref r0), (1, .int x1), (2, .int x2), (3, .int x3), (4, .int x4), (5, .int x5), (6, .int x6)] [.int s0] M (fun r M2 => r = am_rU res ∧ M2 = M') := by
  intro r0 x1 x2 x3 x4 x5 x6 s0 M h
  unfold a_Office_flight_1 at h
  obtain ⟨⟨t38, M38⟩, e_t38, h⟩ := q_bind h
  cases t38 with
  | inr kx =>
    cases h
    exact aw_cSx (As := [.int s0]) (rest := []) d_Office_flight_38 kS_Office_54 ⟨Nat.le_of_ble_eq_true rfl, Nat.le_of_ble_eq_true rfl, Nat.le_of_ble_eq_true rfl, Nat.le_of_ble_eq_true rfl⟩ rfl rfl (Nat.le_of_ble_eq_true rfl) (mt_Office_needArgument e_t38) rfl ⟨rfl, rfl⟩
  | inl vx =>
    dsimp only [q_try] at h
    refine aw_cS (v := none) (As := [.int s0]) (rest := []) (st' := []) d_Office_flight_38 kS_Office_54 ⟨Nat.le_of_ble_eq_true rfl, Nat.le_of_ble_eq_true rfl, Nat.le_of_ble_eq_true rfl, Nat.le_of_ble_eq_true rfl⟩ rfl rfl (Nat.le_of_ble_eq_true rfl) rfl (mt_Office_needArgument e_t38) ?_
    refine aw_iload d_Office_flight_41 rfl ?_
    refine aw_iconst (v := 0) d_Office_flight_43 (by decide) ?_
    refine aw_iconst (v := 2) d_Office_flight_44 (by decide) ?_
    obtain ⟨t45, e_t45, h⟩ := q_bind h
    refine aw_cS (v := (some (.int t45))) (As := [.int x6, .int (0 : Int32), .int (2 : Int32)]) (rest := []) (st' := [.int t45]) d_Office_flight_45 kS_Office_50 ⟨Nat.le_of_ble_eq_true rfl, Nat.le_of_ble_eq_true rfl, Nat.le_of_ble_eq_true rfl, Nat.le_of_ble_eq_true rfl⟩ rfl rfl (Nat.le_of_ble_eq_true rfl) rfl (mt_Office_isWithin e_t45) ?_
    obtain ⟨⟨t48, M48⟩, e_t48, h⟩ := q_bind h
    cases t48 with
    | inr kx =>
      cases h
      exact aw_cSx (As := [.int t45]) (rest := []) d_Office_flight_48 kS_Office_54 ⟨Nat.le_of_ble_eq_true rfl, Nat.le_of_ble_eq_true rfl, Nat.le_of_ble_eq_true rfl, Nat.le_of_ble_eq_true rfl⟩ rfl rfl (Nat.le_of_ble_eq_true rfl) (mt_Office_needArgument e_t48) rfl ⟨rfl, rfl⟩
    | inl vx =>
      dsimp only [q_try] at h
      refine aw_cS (v := none) (As := [.int t45]) (rest := []) (st' := []) d_Office_flight_48 kS_Office_54 ⟨Nat.le_of_ble_eq_true rfl, Nat.le_of_ble_eq_true rfl, Nat.le_of_ble_eq_true rfl, Nat.le_of_ble_eq_true rfl⟩ rfl rfl (Nat.le_of_ble_eq_true rfl) rfl (mt_Office_needArgument e_t48) ?_
      refine aw_iload d_Office_flight_51 rfl ?_
      refine aw_if_lt (tgt := 75) d_Office_flight_53 (by decide) (fun hc => ?_) (fun hc => ?_)
      · rw [if_pos hc] at h
        exact aw_pick [0, 1, 2, 3, 4, 5, 6] rfl (ih_2 _ _ _ _ _ _ _ _ _ h)
      · rw [if_neg hc] at h
        refine aw_iload d_Office_flight_56 rfl ?_
        refine aw_iload d_Office_flight_58 rfl ?_
        refine aw_icmp_le (tgt := 75) d_Office_flight_60 (by decide) (fun hc => ?_) (fun hc => ?_)
        · rw [if_pos hc] at h
          exact aw_pick [0, 1, 2, 3, 4, 5, 6] rfl (ih_2 _ _ _ _ _ _ _ _ _ h)
        · rw [if_neg hc] at h
          refine aw_iload d_Office_flight_63 rfl ?_
          refine aw_sipush (v := 20160) d_Office_flight_65 (by decide) ?_
          refine aw_icmp_gt (tgt := 75) d_Office_flight_68 (by decide) (fun hc => ?_) (fun hc => ?_)
          · rw [if_pos hc] at h
            exact aw_pick [0, 1, 2, 3, 4, 5, 6] rfl (ih_2 _ _ _ _ _ _ _ _ _ h)
          · rw [if_neg hc] at h
            refine aw_iconst (v := 1) d_Office_flight_71 (by decide) ?_
            refine aw_goto (tgt := 76) d_Office_flight_72 (by decide) ?_
            exact aw_pick [0, 1, 2, 3, 4, 5, 6] rfl (ih_3 _ _ _ _ _ _ _ _ _ h)
set_option maxHeartbeats 4000000 in
theorem s_Office_flight_2 {rc : Nat → Nat → Int32 → Int32 → Int32 → Int32 → Int32 → Int32 → Int32 → am_M → Option ((Unit ⊕ Nat) × am_M)} {res : Unit ⊕ Nat} {M' : am_M} (ih_0 : ∀ (r0 : Nat) (x1 : Int32) (x2 : Int32) (x3 : Int32) (x4 : Int32) (x5 : Int32) (x6 : Int32) (s0 : Int32) (M : am_M), rc 0 r0 x1 x2 x3 x4 x5 x6 s0 M = some (res, M') → AW u_Office_flight R_Office_flight 1 6 37 [(0, .ref r0), (1, .int x1), (2, .int x2), (3, .int x3), (4, .int x4), (5, .int x5), (6, .int x6)] [] M (fun r M2 => r = am_rU res ∧ M2 = M')) (ih_1 : ∀ (r0 : Nat) (x1 : Int32) (x2 : Int32) (x3 : Int32) (x4 : Int32) (x5 : Int32) (x6 : Int32) (s0 : Int32) (M : am_M), rc 1 r0 x1 x2 x3 x4 x5 x6 s0 M = some (res, M') → AW u_Office_flight R_Office_flight 1 6 38 [(0, .ref r0), (1, .int x1), (2, .int x2), (3, .int x3), (4, .int x4), (5, .int x5), (6, .int x6)] [.int s0] M (fun r M2 => r = am_rU res ∧ M2 = M')) (ih_2 : ∀ (r0 : Nat) (x1 : Int32) (x2 : Int32) (x3 : Int32) (x4 : Int32) (x5 : Int32) (x6 : Int32) (s0 : Int32) (M : am_M), rc 2 r0 x1 x2 x3 x4 x5 x6 s0 M = some (res, M') → AW u_Office_flight R_Office_flight 3 18 75 [(0, .ref r0), (1, .int x1), (2, .int x2), (3, .int x3), (4, .int x4), (5, .int x5), (6, .int x6)] [] M (fun r M2 => r = am_rU res ∧ M2 = M')) (ih_3 : ∀ (r0 : Nat) (x1 : Int32) (x2 : Int32) (x3 : Int32) (x4 : Int32) (x5 : Int32) (x6 : Int32) (s0 : Int32) (M : am_M), rc 3 r0 x1 x2 x3 x4 x5 x6 s0 M = some (res, M') → AW u_Office_flight R_Office_flight 3 18 76 [(0, .ref r0), (1, .int x1), (2, .int x2), (3, .int x3), (4, .int x4), (5, .int x5), (6, .int x6)] [.int s0] M (fun r M2 => r = am_rU res ∧ M2 = M')) (ih_4 : ∀ (r0 : Nat) (x1 : Int32) (x2 : Int32) (x3 : Int32) (x4 : Int32) (x5 : Int32) (x6 : Int32) (s0 : Int32) (M : am_M), rc 4 r0 x1 x2 x3 x4 x5 x6 s0 M = some (res, M') → AW u_Office_flight R_Office_flight 4 24 95 [(0, .ref r0), (1, .int x1), (2, .int x2), (3, .int x3), (4, .int x4), (5, .int x5), (6, .int x6)] [.int s0] M (fun r M2 => r = am_rU res ∧ M2 = M')) : ∀ (r0 : Nat) (x1 : Int32) (x2 : Int32) (x3 : Int32) (x4 : Int32) (x5 : Int32) (x6 : Int32) (s0 : Int32) (M : am_M), a_Office_flight_2 rc r0 x1 x2 x3 x4 x5 x6 s0 M = some (res, M') → AW u_Office_flight R_Office_flight 3 18 75 [(0, .ref r0), (1, .int x1), (2, .int x2), (3, .int x3), (4, .int x4), (5, .int x5), (6, .int x6)] [] M (fun r M2 => r = am_rU res ∧ M2 = M') := by
  intro r0 x1 x2 x3 x4 x5 x6 s0 M h
  unfold a_Office_flight_2 at h
  refine aw_iconst (v := 0) d_Office_flight_75 (by decide) ?_
  exact aw_pick [0, 1, 2, 3, 4, 5, 6] rfl (ih_3 _ _ _ _ _ _ _ _ _ h)
set_option maxHeartbeats 4000000 in
theorem s_Office_flight_3 {rc : Nat → Nat → Int32 → Int32 → Int32 → Int32 → Int32 → Int32 → Int32 → am_M → Option ((Unit ⊕ Nat) × am_M)} {res : Unit ⊕ Nat} {M' : am_M} (ih_0 : ∀ (r0 : Nat) (x1 : Int32) (x2 : Int32) (x3 : Int32) (x4 : Int32) (x5 : Int32) (x6 : Int32) (s0 : Int32) (M : am_M), rc 0 r0 x1 x2 x3 x4 x5 x6 s0 M = some (res, M') → AW u_Office_flight R_Office_flight 1 6 37 [(0, .ref r0), (1, .int x1), (2, .int x2), (3, .int x3), (4, .int x4), (5, .int x5), (6, .int x6)] [] M (fun r M2 => r = am_rU res ∧ M2 = M')) (ih_1 : ∀ (r0 : Nat) (x1 : Int32) (x2 : Int32) (x3 : Int32) (x4 : Int32) (x5 : Int32) (x6 : Int32) (s0 : Int32) (M : am_M), rc 1 r0 x1 x2 x3 x4 x5 x6 s0 M = some (res, M') → AW u_Office_flight R_Office_flight 1 6 38 [(0, .ref r0), (1, .int x1), (2, .int x2), (3, .int x3), (4, .int x4), (5, .int x5), (6, .int x6)] [.int s0] M (fun r M2 => r = am_rU res ∧ M2 = M')) (ih_2 : ∀ (r0 : Nat) (x1 : Int32) (x2 : Int32) (x3 : Int32) (x4 : Int32) (x5 : Int32) (x6 : Int32) (s0 : Int32) (M : am_M), rc 2 r0 x1 x2 x3 x4 x5 x6 s0 M = some (res, M') → AW u_Office_flight R_Office_flight 3 18 75 [(0, .ref r0), (1, .int x1), (2, .int x2), (3, .int x3), (4, .int x4), (5, .int x5), (6, .int x6)] [] M (fun r M2 => r = am_rU res ∧ M2 = M')) (ih_3 : ∀ (r0 : Nat) (x1 : Int32) (x2 : Int32) (x3 : Int32) (x4 : Int32) (x5 : Int32) (x6 : Int32) (s0 : Int32) (M : am_M), rc 3 r0 x1 x2 x3 x4 x5 x6 s0 M = some (res, M') → AW u_Office_flight R_Office_flight 3 18 76 [(0, .ref r0), (1, .int x1), (2, .int x2), (3, .int x3), (4, .int x4), (5, .int x5), (6, .int x6)] [.int s0] M (fun r M2 => r = am_rU res ∧ M2 = M')) (ih_4 : ∀ (r0 : Nat) (x1 : Int32) (x2 : Int32) (x3 : Int32) (x4 : Int32) (x5 : Int32) (x6 : Int32) (s0 : Int32) (M : am_M), rc 4 r0 x1 x2 x3 x4 x5 x6 s0 M = some (res, M') → AW u_Office_flight R_Office_flight 4 24 95 [(0, .ref r0), (1, .int x1), (2, .int x2), (3, .int x3), (4, .int x4), (5, .int x5), (6, .int x6)] [.int s0] M (fun r M2 => r = am_rU res ∧ M2 = M')) : ∀ (r0 : Nat) (x1 : Int32) (x2 : Int32) (x3 : Int32) (x4 : Int32) (x5 : Int32) (x6 : Int32) (s0 : Int32) (M : am_M), a_Office_flight_3 rc r0 x1 x2 x3 x4 x5 x6 s0 M = some (res, M') → AW u_Office_flight R_Office_flight 3 18 76 [(0, .ref r0), (1, .int x1), (2, .int x2), (3, .int x3), (4, .int x4), (5, .int x5), (6, .int x6)] [.int s0] M (fun r M2 => r = am_rU res ∧ M2 = M') := by
  intro r0 x1 x2 x3 x4 x5 x6 s0 M h
  unfold a_Office_flight_3 at h
  obtain ⟨⟨t76, M76⟩, e_t76, h⟩ := q_bind h
  cases t76 with
  | inr kx =>
    cases h
    exact aw_cSx (As := [.int s0]) (rest := []) d_Office_flight_76 kS_Office_54 ⟨Nat.le_of_ble_eq_true rfl, Nat.le_of_ble_eq_true rfl, Nat.le_of_ble_eq_true rfl, Nat.le_of_ble_eq_true rfl⟩ rfl rfl (Nat.le_of_ble_eq_true rfl) (mt_Office_needArgument e_t76) rfl ⟨rfl, rfl⟩
  | inl vx =>
    dsimp only [q_try] at h
    refine aw_cS (v := none) (As := [.int s0]) (rest := []) (st' := []) d_Office_flight_76 kS_Office_54 ⟨Nat.le_of_ble_eq_true rfl, Nat.le_of_ble_eq_true rfl, Nat.le_of_ble_eq_true rfl, Nat.le_of_ble_eq_true rfl⟩ rfl rfl (Nat.le_of_ble_eq_true rfl) rfl (mt_Office_needArgument e_t76) ?_
    refine aw_iload d_Office_flight_79 rfl ?_
    refine aw_iload d_Office_flight_81 rfl ?_
    refine aw_isub d_Office_flight_83 ?_
    refine aw_sipush (v := 900) d_Office_flight_84 (by decide) ?_
    refine aw_icmp_gt (tgt := 94) d_Office_flight_87 (by decide) (fun hc => ?_) (fun hc => ?_)
    · rw [if_pos hc] at h
      refine aw_iconst (v := 0) d_Office_flight_94 (by decide) ?_
      exact aw_pick [0, 1, 2, 3, 4, 5, 6] rfl (ih_4 _ _ _ _ _ _ _ _ _ h)
    · rw [if_neg hc] at h
      refine aw_iconst (v := 1) d_Office_flight_90 (by decide) ?_
      refine aw_goto (tgt := 95) d_Office_flight_91 (by decide) ?_
      exact aw_pick [0, 1, 2, 3, 4, 5, 6] rfl (ih_4 _ _ _ _ _ _ _ _ _ h)
set_option maxHeartbeats 4000000 in
theorem s_Office_flight_4 {rc : Nat → Nat → Int32 → Int32 → Int32 → Int32 → Int32 → Int32 → Int32 → am_M → Option ((Unit ⊕ Nat) × am_M)} {res : Unit ⊕ Nat} {M' : am_M} (ih_0 : ∀ (r0 : Nat) (x1 : Int32) (x2 : Int32) (x3 : Int32) (x4 : Int32) (x5 : Int32) (x6 : Int32) (s0 : Int32) (M : am_M), rc 0 r0 x1 x2 x3 x4 x5 x6 s0 M = some (res, M') → AW u_Office_flight R_Office_flight 1 6 37 [(0, .ref r0), (1, .int x1), (2, .int x2), (3, .int x3), (4, .int x4), (5, .int x5), (6, .int x6)] [] M (fun r M2 => r = am_rU res ∧ M2 = M')) (ih_1 : ∀ (r0 : Nat) (x1 : Int32) (x2 : Int32) (x3 : Int32) (x4 : Int32) (x5 : Int32) (x6 : Int32) (s0 : Int32) (M : am_M), rc 1 r0 x1 x2 x3 x4 x5 x6 s0 M = some (res, M') → AW u_Office_flight R_Office_flight 1 6 38 [(0, .ref r0), (1, .int x1), (2, .int x2), (3, .int x3), (4, .int x4), (5, .int x5), (6, .int x6)] [.int s0] M (fun r M2 => r = am_rU res ∧ M2 = M')) (ih_2 : ∀ (r0 : Nat) (x1 : Int32) (x2 : Int32) (x3 : Int32) (x4 : Int32) (x5 : Int32) (x6 : Int32) (s0 : Int32) (M : am_M), rc 2 r0 x1 x2 x3 x4 x5 x6 s0 M = some (res, M') → AW u_Office_flight R_Office_flight 3 18 75 [(0, .ref r0), (1, .int x1), (2, .int x2), (3, .int x3), (4, .int x4), (5, .int x5), (6, .int x6)] [] M (fun r M2 => r = am_rU res ∧ M2 = M')) (ih_3 : ∀ (r0 : Nat) (x1 : Int32) (x2 : Int32) (x3 : Int32) (x4 : Int32) (x5 : Int32) (x6 : Int32) (s0 : Int32) (M : am_M), rc 3 r0 x1 x2 x3 x4 x5 x6 s0 M = some (res, M') → AW u_Office_flight R_Office_flight 3 18 76 [(0, .ref r0), (1, .int x1), (2, .int x2), (3, .int x3), (4, .int x4), (5, .int x5), (6, .int x6)] [.int s0] M (fun r M2 => r = am_rU res ∧ M2 = M')) (ih_4 : ∀ (r0 : Nat) (x1 : Int32) (x2 : Int32) (x3 : Int32) (x4 : Int32) (x5 : Int32) (x6 : Int32) (s0 : Int32) (M : am_M), rc 4 r0 x1 x2 x3 x4 x5 x6 s0 M = some (res, M') → AW u_Office_flight R_Office_flight 4 24 95 [(0, .ref r0), (1, .int x1), (2, .int x2), (3, .int x3), (4, .int x4), (5, .int x5), (6, .int x6)] [.int s0] M (fun r M2 => r = am_rU res ∧ M2 = M')) : ∀ (r0 : Nat) (x1 : Int32) (x2 : Int32) (x3 : Int32) (x4 : Int32) (x5 : Int32) (x6 : Int32) (s0 : Int32) (M : am_M), a_Office_flight_4 rc r0 x1 x2 x3 x4 x5 x6 s0 M = some (res, M') → AW u_Office_flight R_Office_flight 4 24 95 [(0, .ref r0), (1, .int x1), (2, .int x2), (3, .int x3), (4, .int x4), (5, .int x5), (6, .int x6)] [.int s0] M (fun r M2 => r = am_rU res ∧ M2 = M') := by
  intro r0 x1 x2 x3 x4 x5 x6 s0 M h
  unfold a_Office_flight_4 at h
  obtain ⟨⟨t95, M95⟩, e_t95, h⟩ := q_bind h
  cases t95 with
  | inr kx =>
    cases h
    exact aw_cSx (As := [.int s0]) (rest := []) d_Office_flight_95 kS_Office_54 ⟨Nat.le_of_ble_eq_true rfl, Nat.le_of_ble_eq_true rfl, Nat.le_of_ble_eq_true rfl, Nat.le_of_ble_eq_true rfl⟩ rfl rfl (Nat.le_of_ble_eq_true rfl) (mt_Office_needArgument e_t95) rfl ⟨rfl, rfl⟩
  | inl vx =>
    dsimp only [q_try] at h
    refine aw_cS (v := none) (As := [.int s0]) (rest := []) (st' := []) d_Office_flight_95 kS_Office_54 ⟨Nat.le_of_ble_eq_true rfl, Nat.le_of_ble_eq_true rfl, Nat.le_of_ble_eq_true rfl, Nat.le_of_ble_eq_true rfl⟩ rfl rfl (Nat.le_of_ble_eq_true rfl) rfl (mt_Office_needArgument e_t95) ?_
    refine aw_aload_n d_Office_flight_98 rfl rfl ?_
    obtain ⟨t99, e_t99, h⟩ := q_bind h
    refine aw_gtr d_Office_flight_99 fl_Office_10 (Or.inl ⟨_, rfl⟩) e_t99 ?_
    obtain ⟨t102, e_t102, h⟩ := q_bind h
    refine aw_gtr d_Office_flight_102 fl_Office_71 (Or.inr ⟨_, rfl⟩) e_t102 ?_
    refine aw_iload_n d_Office_flight_105 rfl rfl ?_
    obtain ⟨t106, e_t106, h⟩ := q_bind h
    refine aw_ldr d_Office_flight_106 e_t106 ?_
    refine aw_iload_n d_Office_flight_107 rfl rfl ?_
    refine aw_iload_n d_Office_flight_108 rfl rfl ?_
    refine aw_iload d_Office_flight_109 rfl ?_
    refine aw_iload d_Office_flight_111 rfl ?_
    refine aw_iload d_Office_flight_113 rfl ?_
    obtain ⟨o115, e_o115, h⟩ := q_bind h
    obtain ⟨⟨t115, M115⟩, e_t115, h⟩ := q_bind h
    dsimp only at h
    refine aw_cV (v := none) (As := [.int x2, .int x3, .int x4, .int x5, .int x6]) (rest := []) (st' := []) d_Office_flight_115 kV_Office_75 (q_ob_spec e_o115).1 (q_ob_spec e_o115).2 ⟨Nat.le_of_ble_eq_true rfl, Nat.le_of_ble_eq_true rfl, Nat.le_of_ble_eq_true rfl, Nat.le_of_ble_eq_true rfl⟩ rfl rfl (Nat.le_of_ble_eq_true rfl) rfl (mt_Leg_set e_t115) ?_
    refine aw_aload_n d_Office_flight_118 rfl rfl ?_
    obtain ⟨o119, e_o119, h⟩ := q_bind h
    obtain ⟨⟨t119, M119⟩, e_t119, h⟩ := q_bind h
    dsimp only at h
    refine aw_cV (v := none) (As := []) (rest := []) (st' := []) d_Office_flight_119 kV_Office_68 (q_ob_spec e_o119).1 (q_ob_spec e_o119).2 ⟨Nat.le_of_ble_eq_true rfl, Nat.le_of_ble_eq_true rfl, Nat.le_of_ble_eq_true rfl, Nat.le_of_ble_eq_true rfl⟩ rfl rfl (Nat.le_of_ble_eq_true rfl) rfl (mt_Office_forgetPairings e_t119) ?_
    cases h
    exact aw_vreturn d_Office_flight_122 rfl (Nat.le_of_ble_eq_true rfl) (Nat.le_of_ble_eq_true rfl) ⟨rfl, rfl⟩
theorem l_Office_flight {res : Unit ⊕ Nat} {M' : am_M} : ∀ F : Nat, (∀ (r0 : Nat) (x1 : Int32) (x2 : Int32) (x3 : Int32) (x4 : Int32) (x5 : Int32) (x6 : Int32) (s0 : Int32) (M : am_M), g_Office_flight F 0 r0 x1 x2 x3 x4 x5 x6 s0 M = some (res, M') → AW u_Office_flight R_Office_flight 1 6 37 [(0, .ref r0), (1, .int x1), (2, .int x2), (3, .int x3), (4, .int x4), (5, .int x5), (6, .int x6)] [] M (fun r M2 => r = am_rU res ∧ M2 = M')) ∧ (∀ (r0 : Nat) (x1 : Int32) (x2 : Int32) (x3 : Int32) (x4 : Int32) (x5 : Int32) (x6 : Int32) (s0 : Int32) (M : am_M), g_Office_flight F 1 r0 x1 x2 x3 x4 x5 x6 s0 M = some (res, M') → AW u_Office_flight R_Office_flight 1 6 38 [(0, .ref r0), (1, .int x1), (2, .int x2), (3, .int x3), (4, .int x4), (5, .int x5), (6, .int x6)] [.int s0] M (fun r M2 => r = am_rU res ∧ M2 = M')) ∧ (∀ (r0 : Nat) (x1 : Int32) (x2 : Int32) (x3 : Int32) (x4 : Int32) (x5 : Int32) (x6 : Int32) (s0 : Int32) (M : am_M), g_Office_flight F 2 r0 x1 x2 x3 x4 x5 x6 s0 M = some (res, M') → AW u_Office_flight R_Office_flight 3 18 75 [(0, .ref r0), (1, .int x1), (2, .int x2), (3, .int x3), (4, .int x4), (5, .int x5), (6, .int x6)] [] M (fun r M2 => r = am_rU res ∧ M2 = M')) ∧ (∀ (r0 : Nat) (x1 : Int32) (x2 : Int32) (x3 : Int32) (x4 : Int32) (x5 : Int32) (x6 : Int32) (s0 : Int32) (M : am_M), g_Office_flight F 3 r0 x1 x2 x3 x4 x5 x6 s0 M = some (res, M') → AW u_Office_flight R_Office_flight 3 18 76 [(0, .ref r0), (1, .int x1), (2, .int x2), (3, .int x3), (4, .int x4), (5, .int x5), (6, .int x6)] [.int s0] M (fun r M2 => r = am_rU res ∧ M2 = M')) ∧ (∀ (r0 : Nat) (x1 : Int32) (x2 : Int32) (x3 : Int32) (x4 : Int32) (x5 : Int32) (x6 : Int32) (s0 : Int32) (M : am_M), g_Office_flight F 4 r0 x1 x2 x3 x4 x5 x6 s0 M = some (res, M') → AW u_Office_flight R_Office_flight 4 24 95 [(0, .ref r0), (1, .int x1), (2, .int x2), (3, .int x3), (4, .int x4), (5, .int x5), (6, .int x6)] [.int s0] M (fun r M2 => r = am_rU res ∧ M2 = M')) := by
  intro F
  induction F with
  | zero => exact ⟨fun _ _ _ _ _ _ _ _ _  h => (by cases h), fun _ _ _ _ _ _ _ _ _  h => (by cases h), fun _ _ _ _ _ _ _ _ _  h => (by cases h), fun _ _ _ _ _ _ _ _ _  h => (by cases h), fun _ _ _ _ _ _ _ _ _  h => (by cases h)⟩
  | succ F ih =>
    obtain ⟨ih0, ih1, ih2, ih3, ih4⟩ := ih
    exact ⟨s_Office_flight_0 ih0 ih1 ih2 ih3 ih4, s_Office_flight_1 ih0 ih1 ih2 ih3 ih4, s_Office_flight_2 ih0 ih1 ih2 ih3 ih4, s_Office_flight_3 ih0 ih1 ih2 ih3 ih4, s_Office_flight_4 ih0 ih1 ih2 ih3 ih4⟩
set_option maxHeartbeats 4000000 in
theorem mt_Office_flight {M : am_M} {a0 : Nat} {a1 : Int32} {a2 : Int32} {a3 : Int32} {a4 : Int32} {a5 : Int32} {a6 : Int32} {res : Unit ⊕ Nat} {M' : am_M} (h : f_Office_flight M a0 a1 a2 a3 a4 a5 a6 = some (res, M')) : AMet y_Office_flight u_Office_flight R_Office_flight [.ref a0, .int a1, .int a2, .int a3, .int a4, .int a5, .int a6] M (fun r M2 => r = am_rU res ∧ M2 = M') := by
  refine am_met (by decide +kernel) w_Office_flight rfl rfl (Nat.le_of_ble_eq_true rfl) ?_
  show AW u_Office_flight R_Office_flight 0 0 0 [(0, .ref a0), (1, .int a1), (2, .int a2), (3, .int a3), (4, .int a4), (5, .int a5), (6, .int a6)] [] M (fun r M2 => r = am_rU res ∧ M2 = M')
  have ih_0 := (l_Office_flight (res := res) (M' := M') 1000000000).1
  have ih_1 := (l_Office_flight (res := res) (M' := M') 1000000000).2.1
  have ih_2 := (l_Office_flight (res := res) (M' := M') 1000000000).2.2.1
  have ih_3 := (l_Office_flight (res := res) (M' := M') 1000000000).2.2.2.1
  have ih_4 := (l_Office_flight (res := res) (M' := M') 1000000000).2.2.2.2
  unfold f_Office_flight at h
  unfold e_Office_flight at h
  generalize g_Office_flight 1000000000 = rc at h ih_0 ih_1 ih_2 ih_3 ih_4
  refine aw_iload_n d_Office_flight_0 rfl rfl ?_
  refine aw_iconst (v := 0) d_Office_flight_1 (by decide) ?_
  refine aw_bipush (v := 11) d_Office_flight_2 (by decide) ?_
  obtain ⟨t4, e_t4, h⟩ := q_bind h
  refine aw_cS (v := (some (.int t4))) (As := [.int a1, .int (0 : Int32), .int (11 : Int32)]) (rest := []) (st' := [.int t4]) d_Office_flight_4 kS_Office_50 ⟨Nat.le_of_ble_eq_true rfl, Nat.le_of_ble_eq_true rfl, Nat.le_of_ble_eq_true rfl, Nat.le_of_ble_eq_true rfl⟩ rfl rfl (Nat.le_of_ble_eq_true rfl) rfl (mt_Office_isWithin e_t4) ?_
  obtain ⟨⟨t7, M7⟩, e_t7, h⟩ := q_bind h
  cases t7 with
  | inr kx =>
    cases h
    exact aw_cSx (As := [.int t4]) (rest := []) d_Office_flight_7 kS_Office_54 ⟨Nat.le_of_ble_eq_true rfl, Nat.le_of_ble_eq_true rfl, Nat.le_of_ble_eq_true rfl, Nat.le_of_ble_eq_true rfl⟩ rfl rfl (Nat.le_of_ble_eq_true rfl) (mt_Office_needArgument e_t7) rfl ⟨rfl, rfl⟩
  | inl vx =>
    dsimp only [q_try] at h
    refine aw_cS (v := none) (As := [.int t4]) (rest := []) (st' := []) d_Office_flight_7 kS_Office_54 ⟨Nat.le_of_ble_eq_true rfl, Nat.le_of_ble_eq_true rfl, Nat.le_of_ble_eq_true rfl, Nat.le_of_ble_eq_true rfl⟩ rfl rfl (Nat.le_of_ble_eq_true rfl) rfl (mt_Office_needArgument e_t7) ?_
    refine aw_iload_n d_Office_flight_10 rfl rfl ?_
    refine aw_iconst (v := 0) d_Office_flight_11 (by decide) ?_
    refine aw_iconst (v := 4) d_Office_flight_12 (by decide) ?_
    obtain ⟨t13, e_t13, h⟩ := q_bind h
    refine aw_cS (v := (some (.int t13))) (As := [.int a2, .int (0 : Int32), .int (4 : Int32)]) (rest := []) (st' := [.int t13]) d_Office_flight_13 kS_Office_50 ⟨Nat.le_of_ble_eq_true rfl, Nat.le_of_ble_eq_true rfl, Nat.le_of_ble_eq_true rfl, Nat.le_of_ble_eq_true rfl⟩ rfl rfl (Nat.le_of_ble_eq_true rfl) rfl (mt_Office_isWithin e_t13) ?_
    refine aw_if_eq (tgt := 37) d_Office_flight_16 (by decide) (fun hc => ?_) (fun hc => ?_)
    · rw [if_pos hc] at h
      exact aw_pick [0, 1, 2, 3, 4, 5, 6] rfl (ih_0 _ _ _ _ _ _ _ _ _ h)
    · rw [if_neg hc] at h
      refine aw_iload_n d_Office_flight_19 rfl rfl ?_
      refine aw_iconst (v := 0) d_Office_flight_20 (by decide) ?_
      refine aw_iconst (v := 4) d_Office_flight_21 (by decide) ?_
      obtain ⟨t22, e_t22, h⟩ := q_bind h
      refine aw_cS (v := (some (.int t22))) (As := [.int a3, .int (0 : Int32), .int (4 : Int32)]) (rest := []) (st' := [.int t22]) d_Office_flight_22 kS_Office_50 ⟨Nat.le_of_ble_eq_true rfl, Nat.le_of_ble_eq_true rfl, Nat.le_of_ble_eq_true rfl, Nat.le_of_ble_eq_true rfl⟩ rfl rfl (Nat.le_of_ble_eq_true rfl) rfl (mt_Office_isWithin e_t22) ?_
      refine aw_if_eq (tgt := 37) d_Office_flight_25 (by decide) (fun hc => ?_) (fun hc => ?_)
      · rw [if_pos hc] at h
        exact aw_pick [0, 1, 2, 3, 4, 5, 6] rfl (ih_0 _ _ _ _ _ _ _ _ _ h)
      · rw [if_neg hc] at h
        refine aw_iload_n d_Office_flight_28 rfl rfl ?_
        refine aw_iload_n d_Office_flight_29 rfl rfl ?_
        refine aw_icmp_eq (tgt := 37) d_Office_flight_30 (by decide) (fun hc => ?_) (fun hc => ?_)
        · rw [if_pos hc] at h
          exact aw_pick [0, 1, 2, 3, 4, 5, 6] rfl (ih_0 _ _ _ _ _ _ _ _ _ h)
        · rw [if_neg hc] at h
          refine aw_iconst (v := 1) d_Office_flight_33 (by decide) ?_
          refine aw_goto (tgt := 38) d_Office_flight_34 (by decide) ?_
          exact aw_pick [0, 1, 2, 3, 4, 5, 6] rfl (ih_1 _ _ _ _ _ _ _ _ _ h)
def y_Office_drop : MethodName := ⟨"CrewOffice", "drop", "(I)Z"⟩
def u_Office_drop : am_U := ("CrewOffice", "drop", prog_1_method_4_code, 2, (some .boolean), [])
def R_Office_drop : Room := { frames := 9, cells := 1, slots := 6, locals := 220 }
theorem d_Office_drop_0 : decode u_Office_drop.2.2.1 0 = .ok (.iload_n 1, 1) := by decide +kernel
theorem d_Office_drop_1 : decode u_Office_drop.2.2.1 1 = .ok (.iconst 0, 1) := by decide +kernel
theorem d_Office_drop_2 : decode u_Office_drop.2.2.1 2 = .ok (.bipush 11, 2) := by decide +kernel
theorem d_Office_drop_4 : decode u_Office_drop.2.2.1 4 = .ok (.invokestatic 50, 3) := by decide +kernel
theorem d_Office_drop_7 : decode u_Office_drop.2.2.1 7 = .ok (.invokestatic 54, 3) := by decide +kernel
theorem d_Office_drop_10 : decode u_Office_drop.2.2.1 10 = .ok (.aload_n 0, 1) := by decide +kernel
theorem d_Office_drop_11 : decode u_Office_drop.2.2.1 11 = .ok (.getfield 10, 3) := by decide +kernel
theorem d_Office_drop_14 : decode u_Office_drop.2.2.1 14 = .ok (.getfield 71, 3) := by decide +kernel
theorem d_Office_drop_17 : decode u_Office_drop.2.2.1 17 = .ok (.iload_n 1, 1) := by decide +kernel
theorem d_Office_drop_18 : decode u_Office_drop.2.2.1 18 = .ok (.aaload, 1) := by decide +kernel
theorem d_Office_drop_19 : decode u_Office_drop.2.2.1 19 = .ok (.getfield 80, 3) := by decide +kernel
theorem d_Office_drop_22 : decode u_Office_drop.2.2.1 22 = .ok (.ifCond .ne 5, 3) := by decide +kernel
theorem d_Office_drop_25 : decode u_Office_drop.2.2.1 25 = .ok (.iconst 0, 1) := by decide +kernel
theorem d_Office_drop_26 : decode u_Office_drop.2.2.1 26 = .ok (.ireturn, 1) := by decide +kernel
theorem d_Office_drop_27 : decode u_Office_drop.2.2.1 27 = .ok (.aload_n 0, 1) := by decide +kernel
theorem d_Office_drop_28 : decode u_Office_drop.2.2.1 28 = .ok (.getfield 10, 3) := by decide +kernel
theorem d_Office_drop_31 : decode u_Office_drop.2.2.1 31 = .ok (.getfield 71, 3) := by decide +kernel
theorem d_Office_drop_34 : decode u_Office_drop.2.2.1 34 = .ok (.iload_n 1, 1) := by decide +kernel
theorem d_Office_drop_35 : decode u_Office_drop.2.2.1 35 = .ok (.aaload, 1) := by decide +kernel
theorem d_Office_drop_36 : decode u_Office_drop.2.2.1 36 = .ok (.iconst 0, 1) := by decide +kernel
theorem d_Office_drop_37 : decode u_Office_drop.2.2.1 37 = .ok (.putfield 80, 3) := by decide +kernel
theorem d_Office_drop_40 : decode u_Office_drop.2.2.1 40 = .ok (.aload_n 0, 1) := by decide +kernel
theorem d_Office_drop_41 : decode u_Office_drop.2.2.1 41 = .ok (.invokevirtual 68, 3) := by decide +kernel
theorem d_Office_drop_44 : decode u_Office_drop.2.2.1 44 = .ok (.iconst 1, 1) := by decide +kernel
theorem d_Office_drop_45 : decode u_Office_drop.2.2.1 45 = .ok (.ireturn, 1) := by decide +kernel
theorem w_Office_drop : am_code y_Office_drop u_Office_drop ∈ am_ws := am_mem (List.mem_of_getElem? (i := 730) (by decide +kernel)) rfl
def e_Office_drop (M : am_M) (a0 : Nat) (a1 : Int32) : Option ((Int32 ⊕ Nat) × am_M) := (f_Office_isWithin M a1 (0 : Int32) (11 : Int32)).bind (fun t4 => (f_Office_needArgument M t4).bind (fun p7 => q_try p7 (fun _ M7 => (q_gtr M7 a0 9 0).bind (fun t11 => (q_gtr M7 t11 3 1).bind (fun t14 => (q_ldr M7 t14 a1).bind (fun t18 => (q_gti M7 t18 1 0).bind (fun t19 => if t19 = 0 then (some (.inl (0 : Int32), M7)) else ((q_gtr M7 a0 9 0).bind (fun t28 => (q_gtr M7 t28 3 1).bind (fun t31 => (q_ldr M7 t31 a1).bind (fun t35 => (q_ptz M7 t35 1 0 (0 : Int32)).bind (fun M37 => (q_ob M37 a0 9).bind (fun o41 => (f_Office_forgetPairings M37 a0).bind (fun p41 => some (.inl (1 : Int32), p41.2)))))))))))))))
def f_Office_drop (M : am_M) (a0 : Nat) (a1 : Int32) : Option ((Int32 ⊕ Nat) × am_M) := e_Office_drop M a0 a1
theorem fl_Office_80 : am_fl "CrewOffice" 80 1 0 := ⟨by decide, by decide, List.mem_of_getElem? (i := 130) (by decide +kernel)⟩
set_option maxHeartbeats 4000000 in
theorem mt_Office_drop {M : am_M} {a0 : Nat} {a1 : Int32} {res : Int32 ⊕ Nat} {M' : am_M} (h : f_Office_drop M a0 a1 = some (res, M')) : AMet y_Office_drop u_Office_drop R_Office_drop [.ref a0, .int a1] M (fun r M2 => r = am_rI res ∧ M2 = M') := by
  refine am_met (by decide +kernel) w_Office_drop rfl rfl (Nat.le_of_ble_eq_true rfl) ?_
  show AW u_Office_drop R_Office_drop 0 0 0 [(0, .ref a0), (1, .int a1)] [] M (fun r M2 => r = am_rI res ∧ M2 = M')
  unfold f_Office_drop at h
  unfold e_Office_drop at h
  refine aw_iload_n d_Office_drop_0 rfl rfl ?_
  refine aw_iconst (v := 0) d_Office_drop_1 (by decide) ?_
  refine aw_bipush (v := 11) d_Office_drop_2 (by decide) ?_
  obtain ⟨t4, e_t4, h⟩ := q_bind h
  refine aw_cS (v := (some (.int t4))) (As := [.int a1, .int (0 : Int32), .int (11 : Int32)]) (rest := []) (st' := [.int t4]) d_Office_drop_4 kS_Office_50 ⟨Nat.le_of_ble_eq_true rfl, Nat.le_of_ble_eq_true rfl, Nat.le_of_ble_eq_true rfl, Nat.le_of_ble_eq_true rfl⟩ rfl rfl (Nat.le_of_ble_eq_true rfl) rfl (mt_Office_isWithin e_t4) ?_
  obtain ⟨⟨t7, M7⟩, e_t7, h⟩ := q_bind h
  cases t7 with
  | inr kx =>
    cases h
    exact aw_cSx (As := [.int t4]) (rest := []) d_Office_drop_7 kS_Office_54 ⟨Nat.le_of_ble_eq_true rfl, Nat.le_of_ble_eq_true rfl, Nat.le_of_ble_eq_true rfl, Nat.le_of_ble_eq_true rfl⟩ rfl rfl (Nat.le_of_ble_eq_true rfl) (mt_Office_needArgument e_t7) rfl ⟨rfl, rfl⟩
  | inl vx =>
    dsimp only [q_try] at h
    refine aw_cS (v := none) (As := [.int t4]) (rest := []) (st' := []) d_Office_drop_7 kS_Office_54 ⟨Nat.le_of_ble_eq_true rfl, Nat.le_of_ble_eq_true rfl, Nat.le_of_ble_eq_true rfl, Nat.le_of_ble_eq_true rfl⟩ rfl rfl (Nat.le_of_ble_eq_true rfl) rfl (mt_Office_needArgument e_t7) ?_
    refine aw_aload_n d_Office_drop_10 rfl rfl ?_
    obtain ⟨t11, e_t11, h⟩ := q_bind h
    refine aw_gtr d_Office_drop_11 fl_Office_10 (Or.inl ⟨_, rfl⟩) e_t11 ?_
    obtain ⟨t14, e_t14, h⟩ := q_bind h
    refine aw_gtr d_Office_drop_14 fl_Office_71 (Or.inr ⟨_, rfl⟩) e_t14 ?_
    refine aw_iload_n d_Office_drop_17 rfl rfl ?_
    obtain ⟨t18, e_t18, h⟩ := q_bind h
    refine aw_ldr d_Office_drop_18 e_t18 ?_
    obtain ⟨t19, e_t19, h⟩ := q_bind h
    refine aw_gti d_Office_drop_19 fl_Office_80 (Or.inr rfl) e_t19 ?_
    refine aw_if_ne (tgt := 27) d_Office_drop_22 (by decide) (fun hc => ?_) (fun hc => ?_)
    · rw [if_neg hc] at h
      refine aw_aload_n d_Office_drop_27 rfl rfl ?_
      obtain ⟨t28, e_t28, h⟩ := q_bind h
      refine aw_gtr d_Office_drop_28 fl_Office_10 (Or.inl ⟨_, rfl⟩) e_t28 ?_
      obtain ⟨t31, e_t31, h⟩ := q_bind h
      refine aw_gtr d_Office_drop_31 fl_Office_71 (Or.inr ⟨_, rfl⟩) e_t31 ?_
      refine aw_iload_n d_Office_drop_34 rfl rfl ?_
      obtain ⟨t35, e_t35, h⟩ := q_bind h
      refine aw_ldr d_Office_drop_35 e_t35 ?_
      refine aw_iconst (v := 0) d_Office_drop_36 (by decide) ?_
      obtain ⟨M37, e_M37, h⟩ := q_bind h
      refine aw_ptz d_Office_drop_37 fl_Office_80 rfl rfl e_M37 ?_
      refine aw_aload_n d_Office_drop_40 rfl rfl ?_
      obtain ⟨o41, e_o41, h⟩ := q_bind h
      obtain ⟨⟨t41, M41⟩, e_t41, h⟩ := q_bind h
      dsimp only at h
      refine aw_cV (v := none) (As := []) (rest := []) (st' := []) d_Office_drop_41 kV_Office_68 (q_ob_spec e_o41).1 (q_ob_spec e_o41).2 ⟨Nat.le_of_ble_eq_true rfl, Nat.le_of_ble_eq_true rfl, Nat.le_of_ble_eq_true rfl, Nat.le_of_ble_eq_true rfl⟩ rfl rfl (Nat.le_of_ble_eq_true rfl) rfl (mt_Office_forgetPairings e_t41) ?_
      refine aw_iconst (v := 1) d_Office_drop_44 (by decide) ?_
      cases h
      exact aw_zreturn d_Office_drop_45 rfl (by decide) (Nat.le_of_ble_eq_true rfl) (Nat.le_of_ble_eq_true rfl) ⟨rfl, rfl⟩
    · rw [if_pos hc] at h
      refine aw_iconst (v := 0) d_Office_drop_25 (by decide) ?_
      cases h
      exact aw_zreturn d_Office_drop_26 rfl (by decide) (Nat.le_of_ble_eq_true rfl) (Nat.le_of_ble_eq_true rfl) ⟨rfl, rfl⟩
def y_Office_move : MethodName := ⟨"CrewOffice", "move", "(II)Z"⟩
def u_Office_move : am_U := ("CrewOffice", "move", prog_1_method_5_code, 3, (some .boolean), [])
def R_Office_move : Room := { frames := 9, cells := 1, slots := 6, locals := 220 }
theorem d_Office_move_0 : decode u_Office_move.2.2.1 0 = .ok (.iload_n 1, 1) := by decide +kernel
theorem d_Office_move_1 : decode u_Office_move.2.2.1 1 = .ok (.iconst 0, 1) := by decide +kernel
theorem d_Office_move_2 : decode u_Office_move.2.2.1 2 = .ok (.bipush 11, 2) := by decide +kernel
theorem d_Office_move_4 : decode u_Office_move.2.2.1 4 = .ok (.invokestatic 50, 3) := by decide +kernel
theorem d_Office_move_7 : decode u_Office_move.2.2.1 7 = .ok (.invokestatic 54, 3) := by decide +kernel
theorem d_Office_move_10 : decode u_Office_move.2.2.1 10 = .ok (.aload_n 0, 1) := by decide +kernel
theorem d_Office_move_11 : decode u_Office_move.2.2.1 11 = .ok (.getfield 10, 3) := by decide +kernel
theorem d_Office_move_14 : decode u_Office_move.2.2.1 14 = .ok (.getfield 71, 3) := by decide +kernel
theorem d_Office_move_17 : decode u_Office_move.2.2.1 17 = .ok (.iload_n 1, 1) := by decide +kernel
theorem d_Office_move_18 : decode u_Office_move.2.2.1 18 = .ok (.aaload, 1) := by decide +kernel
theorem d_Office_move_19 : decode u_Office_move.2.2.1 19 = .ok (.getfield 80, 3) := by decide +kernel
theorem d_Office_move_22 : decode u_Office_move.2.2.1 22 = .ok (.ifCond .eq 19, 3) := by decide +kernel
theorem d_Office_move_25 : decode u_Office_move.2.2.1 25 = .ok (.aload_n 0, 1) := by decide +kernel
theorem d_Office_move_26 : decode u_Office_move.2.2.1 26 = .ok (.getfield 10, 3) := by decide +kernel
theorem d_Office_move_29 : decode u_Office_move.2.2.1 29 = .ok (.getfield 71, 3) := by decide +kernel
theorem d_Office_move_32 : decode u_Office_move.2.2.1 32 = .ok (.iload_n 1, 1) := by decide +kernel
theorem d_Office_move_33 : decode u_Office_move.2.2.1 33 = .ok (.aaload, 1) := by decide +kernel
theorem d_Office_move_34 : decode u_Office_move.2.2.1 34 = .ok (.iload_n 2, 1) := by decide +kernel
theorem d_Office_move_35 : decode u_Office_move.2.2.1 35 = .ok (.invokevirtual 84, 3) := by decide +kernel
theorem d_Office_move_38 : decode u_Office_move.2.2.1 38 = .ok (.ifCond .ne 5, 3) := by decide +kernel
theorem d_Office_move_41 : decode u_Office_move.2.2.1 41 = .ok (.iconst 0, 1) := by decide +kernel
theorem d_Office_move_42 : decode u_Office_move.2.2.1 42 = .ok (.ireturn, 1) := by decide +kernel
theorem d_Office_move_43 : decode u_Office_move.2.2.1 43 = .ok (.aload_n 0, 1) := by decide +kernel
theorem d_Office_move_44 : decode u_Office_move.2.2.1 44 = .ok (.invokevirtual 68, 3) := by decide +kernel
theorem d_Office_move_47 : decode u_Office_move.2.2.1 47 = .ok (.iconst 1, 1) := by decide +kernel
theorem d_Office_move_48 : decode u_Office_move.2.2.1 48 = .ok (.ireturn, 1) := by decide +kernel
theorem w_Office_move : am_code y_Office_move u_Office_move ∈ am_ws := am_mem (List.mem_of_getElem? (i := 737) (by decide +kernel)) rfl
def e_Office_move (M : am_M) (a0 : Nat) (a1 : Int32) (a2 : Int32) : Option ((Int32 ⊕ Nat) × am_M) := (f_Office_isWithin M a1 (0 : Int32) (11 : Int32)).bind (fun t4 => (f_Office_needArgument M t4).bind (fun p7 => q_try p7 (fun _ M7 => (q_gtr M7 a0 9 0).bind (fun t11 => (q_gtr M7 t11 3 1).bind (fun t14 => (q_ldr M7 t14 a1).bind (fun t18 => (q_gti M7 t18 1 0).bind (fun t19 => if t19 = 0 then (some (.inl (0 : Int32), M7)) else ((q_gtr M7 a0 9 0).bind (fun t26 => (q_gtr M7 t26 3 1).bind (fun t29 => (q_ldr M7 t29 a1).bind (fun t33 => (q_ob M7 t33 1).bind (fun o35 => (f_Leg_shift M7 t33 a2).bind (fun p35 => if p35.1 = 0 then (some (.inl (0 : Int32), p35.2)) else ((q_ob p35.2 a0 9).bind (fun o44 => (f_Office_forgetPairings p35.2 a0).bind (fun p44 => some (.inl (1 : Int32), p44.2)))))))))))))))))
def f_Office_move (M : am_M) (a0 : Nat) (a1 : Int32) (a2 : Int32) : Option ((Int32 ⊕ Nat) × am_M) := e_Office_move M a0 a1 a2
theorem kV_Office_84 : am_kV "CrewOffice" 84 1 y_Leg_shift u_Leg_shift 1 := ⟨List.mem_of_getElem? (i := 738) (by decide +kernel), ⟨List.mem_of_getElem? (i := 739) (by decide +kernel), List.mem_of_getElem? (i := 740) (by decide +kernel)⟩, List.mem_of_getElem? (i := 57) (by decide +kernel), w_Leg_shift, ⟨⟨by decide +kernel, by decide +kernel⟩, by decide +kernel⟩⟩
set_option maxHeartbeats 4000000 in
theorem mt_Office_move {M : am_M} {a0 : Nat} {a1 : Int32} {a2 : Int32} {res : Int32 ⊕ Nat} {M' : am_M} (h : f_Office_move M a0 a1 a2 = some (res, M')) : AMet y_Office_move u_Office_move R_Office_move [.ref a0, .int a1, .int a2] M (fun r M2 => r = am_rI res ∧ M2 = M') := by
  refine am_met (by decide +kernel) w_Office_move rfl rfl (Nat.le_of_ble_eq_true rfl) ?_
  show AW u_Office_move R_Office_move 0 0 0 [(0, .ref a0), (1, .int a1), (2, .int a2)] [] M (fun r M2 => r = am_rI res ∧ M2 = M')
  unfold f_Office_move at h
  unfold e_Office_move at h
  refine aw_iload_n d_Office_move_0 rfl rfl ?_
  refine aw_iconst (v := 0) d_Office_move_1 (by decide) ?_
  refine aw_bipush (v := 11) d_Office_move_2 (by decide) ?_
  obtain ⟨t4, e_t4, h⟩ := q_bind h
  refine aw_cS (v := (some (.int t4))) (As := [.int a1, .int (0 : Int32), .int (11 : Int32)]) (rest := []) (st' := [.int t4]) d_Office_move_4 kS_Office_50 ⟨Nat.le_of_ble_eq_true rfl, Nat.le_of_ble_eq_true rfl, Nat.le_of_ble_eq_true rfl, Nat.le_of_ble_eq_true rfl⟩ rfl rfl (Nat.le_of_ble_eq_true rfl) rfl (mt_Office_isWithin e_t4) ?_
  obtain ⟨⟨t7, M7⟩, e_t7, h⟩ := q_bind h
  cases t7 with
  | inr kx =>
    cases h
    exact aw_cSx (As := [.int t4]) (rest := []) d_Office_move_7 kS_Office_54 ⟨Nat.le_of_ble_eq_true rfl, Nat.le_of_ble_eq_true rfl, Nat.le_of_ble_eq_true rfl, Nat.le_of_ble_eq_true rfl⟩ rfl rfl (Nat.le_of_ble_eq_true rfl) (mt_Office_needArgument e_t7) rfl ⟨rfl, rfl⟩
  | inl vx =>
    dsimp only [q_try] at h
    refine aw_cS (v := none) (As := [.int t4]) (rest := []) (st' := []) d_Office_move_7 kS_Office_54 ⟨Nat.le_of_ble_eq_true rfl, Nat.le_of_ble_eq_true rfl, Nat.le_of_ble_eq_true rfl, Nat.le_of_ble_eq_true rfl⟩ rfl rfl (Nat.le_of_ble_eq_true rfl) rfl (mt_Office_needArgument e_t7) ?_
    refine aw_aload_n d_Office_move_10 rfl rfl ?_
    obtain ⟨t11, e_t11, h⟩ := q_bind h
    refine aw_gtr d_Office_move_11 fl_Office_10 (Or.inl ⟨_, rfl⟩) e_t11 ?_
    obtain ⟨t14, e_t14, h⟩ := q_bind h
    refine aw_gtr d_Office_move_14 fl_Office_71 (Or.inr ⟨_, rfl⟩) e_t14 ?_
    refine aw_iload_n d_Office_move_17 rfl rfl ?_
    obtain ⟨t18, e_t18, h⟩ := q_bind h
    refine aw_ldr d_Office_move_18 e_t18 ?_
    obtain ⟨t19, e_t19, h⟩ := q_bind h
    refine aw_gti d_Office_move_19 fl_Office_80 (Or.inr rfl) e_t19 ?_
    refine aw_if_eq (tgt := 41) d_Office_move_22 (by decide) (fun hc => ?_) (fun hc => ?_)
    · rw [if_pos hc] at h
      refine aw_iconst (v := 0) d_Office_move_41 (by decide) ?_
      cases h
      exact aw_zreturn d_Office_move_42 rfl (by decide) (Nat.le_of_ble_eq_true rfl) (Nat.le_of_ble_eq_true rfl) ⟨rfl, rfl⟩
    · rw [if_neg hc] at h
      refine aw_aload_n d_Office_move_25 rfl rfl ?_
      obtain ⟨t26, e_t26, h⟩ := q_bind h
      refine aw_gtr d_Office_move_26 fl_Office_10 (Or.inl ⟨_, rfl⟩) e_t26 ?_
      obtain ⟨t29, e_t29, h⟩ := q_bind h
      refine aw_gtr d_Office_move_29 fl_Office_71 (Or.inr ⟨_, rfl⟩) e_t29 ?_
      refine aw_iload_n d_Office_move_32 rfl rfl ?_
      obtain ⟨t33, e_t33, h⟩ := q_bind h
      refine aw_ldr d_Office_move_33 e_t33 ?_
      refine aw_iload_n d_Office_move_34 rfl rfl ?_
      obtain ⟨o35, e_o35, h⟩ := q_bind h
      obtain ⟨⟨t35, M35⟩, e_t35, h⟩ := q_bind h
      dsimp only at h
      refine aw_cV (v := (some (.int t35))) (As := [.int a2]) (rest := []) (st' := [.int t35]) d_Office_move_35 kV_Office_84 (q_ob_spec e_o35).1 (q_ob_spec e_o35).2 ⟨Nat.le_of_ble_eq_true rfl, Nat.le_of_ble_eq_true rfl, Nat.le_of_ble_eq_true rfl, Nat.le_of_ble_eq_true rfl⟩ rfl rfl (Nat.le_of_ble_eq_true rfl) rfl (mt_Leg_shift e_t35) ?_
      refine aw_if_ne (tgt := 43) d_Office_move_38 (by decide) (fun hc => ?_) (fun hc => ?_)
      · rw [if_neg hc] at h
        refine aw_aload_n d_Office_move_43 rfl rfl ?_
        obtain ⟨o44, e_o44, h⟩ := q_bind h
        obtain ⟨⟨t44, M44⟩, e_t44, h⟩ := q_bind h
        dsimp only at h
        refine aw_cV (v := none) (As := []) (rest := []) (st' := []) d_Office_move_44 kV_Office_68 (q_ob_spec e_o44).1 (q_ob_spec e_o44).2 ⟨Nat.le_of_ble_eq_true rfl, Nat.le_of_ble_eq_true rfl, Nat.le_of_ble_eq_true rfl, Nat.le_of_ble_eq_true rfl⟩ rfl rfl (Nat.le_of_ble_eq_true rfl) rfl (mt_Office_forgetPairings e_t44) ?_
        refine aw_iconst (v := 1) d_Office_move_47 (by decide) ?_
        cases h
        exact aw_zreturn d_Office_move_48 rfl (by decide) (Nat.le_of_ble_eq_true rfl) (Nat.le_of_ble_eq_true rfl) ⟨rfl, rfl⟩
      · rw [if_pos hc] at h
        refine aw_iconst (v := 0) d_Office_move_41 (by decide) ?_
        cases h
        exact aw_zreturn d_Office_move_42 rfl (by decide) (Nat.le_of_ble_eq_true rfl) (Nat.le_of_ble_eq_true rfl) ⟨rfl, rfl⟩
def y_Office_rule : MethodName := ⟨"CrewOffice", "rule", "(II)V"⟩
def u_Office_rule : am_U := ("CrewOffice", "rule", prog_1_method_6_code, 3, none, [])
def R_Office_rule : Room := { frames := 9, cells := 2, slots := 12, locals := 220 }
theorem d_Office_rule_0 : decode u_Office_rule.2.2.1 0 = .ok (.iload_n 1, 1) := by decide +kernel
theorem d_Office_rule_1 : decode u_Office_rule.2.2.1 1 = .ok (.iconst 0, 1) := by decide +kernel
theorem d_Office_rule_2 : decode u_Office_rule.2.2.1 2 = .ok (.bipush 10, 2) := by decide +kernel
theorem d_Office_rule_4 : decode u_Office_rule.2.2.1 4 = .ok (.invokestatic 50, 3) := by decide +kernel
theorem d_Office_rule_7 : decode u_Office_rule.2.2.1 7 = .ok (.invokestatic 54, 3) := by decide +kernel
theorem d_Office_rule_10 : decode u_Office_rule.2.2.1 10 = .ok (.iload_n 2, 1) := by decide +kernel
theorem d_Office_rule_11 : decode u_Office_rule.2.2.1 11 = .ok (.getstatic 88, 3) := by decide +kernel
theorem d_Office_rule_14 : decode u_Office_rule.2.2.1 14 = .ok (.iload_n 1, 1) := by decide +kernel
theorem d_Office_rule_15 : decode u_Office_rule.2.2.1 15 = .ok (.iaload, 1) := by decide +kernel
theorem d_Office_rule_16 : decode u_Office_rule.2.2.1 16 = .ok (.getstatic 92, 3) := by decide +kernel
theorem d_Office_rule_19 : decode u_Office_rule.2.2.1 19 = .ok (.iload_n 1, 1) := by decide +kernel
theorem d_Office_rule_20 : decode u_Office_rule.2.2.1 20 = .ok (.iaload, 1) := by decide +kernel
theorem d_Office_rule_21 : decode u_Office_rule.2.2.1 21 = .ok (.invokestatic 50, 3) := by decide +kernel
theorem d_Office_rule_24 : decode u_Office_rule.2.2.1 24 = .ok (.invokestatic 54, 3) := by decide +kernel
theorem d_Office_rule_27 : decode u_Office_rule.2.2.1 27 = .ok (.aload_n 0, 1) := by decide +kernel
theorem d_Office_rule_28 : decode u_Office_rule.2.2.1 28 = .ok (.getfield 10, 3) := by decide +kernel
theorem d_Office_rule_31 : decode u_Office_rule.2.2.1 31 = .ok (.getfield 95, 3) := by decide +kernel
theorem d_Office_rule_34 : decode u_Office_rule.2.2.1 34 = .ok (.iload_n 1, 1) := by decide +kernel
theorem d_Office_rule_35 : decode u_Office_rule.2.2.1 35 = .ok (.iload_n 2, 1) := by decide +kernel
theorem d_Office_rule_36 : decode u_Office_rule.2.2.1 36 = .ok (.iastore, 1) := by decide +kernel
theorem d_Office_rule_37 : decode u_Office_rule.2.2.1 37 = .ok (.aload_n 0, 1) := by decide +kernel
theorem d_Office_rule_38 : decode u_Office_rule.2.2.1 38 = .ok (.invokevirtual 68, 3) := by decide +kernel
theorem d_Office_rule_41 : decode u_Office_rule.2.2.1 41 = .ok (.return_, 1) := by decide +kernel
theorem w_Office_rule : am_code y_Office_rule u_Office_rule ∈ am_ws := am_mem (List.mem_of_getElem? (i := 748) (by decide +kernel)) rfl
def e_Office_rule (M : am_M) (a0 : Nat) (a1 : Int32) (a2 : Int32) : Option ((Unit ⊕ Nat) × am_M) := (f_Office_isWithin M a1 (0 : Int32) (10 : Int32)).bind (fun t4 => (f_Office_needArgument M t4).bind (fun p7 => q_try p7 (fun _ M7 => (q_ldk 0 a1).bind (fun t15 => (q_ldk 1 a1).bind (fun t20 => (f_Office_isWithin M7 a2 t15 t20).bind (fun t21 => (f_Office_needArgument M7 t21).bind (fun p24 => q_try p24 (fun _ M24 => (q_gtr M24 a0 9 0).bind (fun t28 => (q_gtr M24 t28 3 3).bind (fun t31 => (q_sti M24 t31 a1 a2).bind (fun M36 => (q_ob M36 a0 9).bind (fun o38 => (f_Office_forgetPairings M36 a0).bind (fun p38 => some (.inl (), p38.2))))))))))))))
def f_Office_rule (M : am_M) (a0 : Nat) (a1 : Int32) (a2 : Int32) : Option ((Unit ⊕ Nat) × am_M) := e_Office_rule M a0 a1 a2
theorem fl_Office_95 : am_fl "CrewOffice" 95 3 3 := ⟨by decide, by decide, List.mem_of_getElem? (i := 232) (by decide +kernel)⟩
set_option maxHeartbeats 4000000 in
theorem mt_Office_rule {M : am_M} {a0 : Nat} {a1 : Int32} {a2 : Int32} {res : Unit ⊕ Nat} {M' : am_M} (h : f_Office_rule M a0 a1 a2 = some (res, M')) : AMet y_Office_rule u_Office_rule R_Office_rule [.ref a0, .int a1, .int a2] M (fun r M2 => r = am_rU res ∧ M2 = M') := by
  refine am_met (by decide +kernel) w_Office_rule rfl rfl (Nat.le_of_ble_eq_true rfl) ?_
  show AW u_Office_rule R_Office_rule 0 0 0 [(0, .ref a0), (1, .int a1), (2, .int a2)] [] M (fun r M2 => r = am_rU res ∧ M2 = M')
  unfold f_Office_rule at h
  unfold e_Office_rule at h
  refine aw_iload_n d_Office_rule_0 rfl rfl ?_
  refine aw_iconst (v := 0) d_Office_rule_1 (by decide) ?_
  refine aw_bipush (v := 10) d_Office_rule_2 (by decide) ?_
  obtain ⟨t4, e_t4, h⟩ := q_bind h
  refine aw_cS (v := (some (.int t4))) (As := [.int a1, .int (0 : Int32), .int (10 : Int32)]) (rest := []) (st' := [.int t4]) d_Office_rule_4 kS_Office_50 ⟨Nat.le_of_ble_eq_true rfl, Nat.le_of_ble_eq_true rfl, Nat.le_of_ble_eq_true rfl, Nat.le_of_ble_eq_true rfl⟩ rfl rfl (Nat.le_of_ble_eq_true rfl) rfl (mt_Office_isWithin e_t4) ?_
  obtain ⟨⟨t7, M7⟩, e_t7, h⟩ := q_bind h
  cases t7 with
  | inr kx =>
    cases h
    exact aw_cSx (As := [.int t4]) (rest := []) d_Office_rule_7 kS_Office_54 ⟨Nat.le_of_ble_eq_true rfl, Nat.le_of_ble_eq_true rfl, Nat.le_of_ble_eq_true rfl, Nat.le_of_ble_eq_true rfl⟩ rfl rfl (Nat.le_of_ble_eq_true rfl) (mt_Office_needArgument e_t7) rfl ⟨rfl, rfl⟩
  | inl vx =>
    dsimp only [q_try] at h
    refine aw_cS (v := none) (As := [.int t4]) (rest := []) (st' := []) d_Office_rule_7 kS_Office_54 ⟨Nat.le_of_ble_eq_true rfl, Nat.le_of_ble_eq_true rfl, Nat.le_of_ble_eq_true rfl, Nat.le_of_ble_eq_true rfl⟩ rfl rfl (Nat.le_of_ble_eq_true rfl) rfl (mt_Office_needArgument e_t7) ?_
    refine aw_iload_n d_Office_rule_10 rfl rfl ?_
    refine aw_gets (j := 0) d_Office_rule_11 (by decide) (List.mem_of_getElem? (i := 749) (by decide +kernel)) ?_
    refine aw_iload_n d_Office_rule_14 rfl rfl ?_
    obtain ⟨t15, e_t15, h⟩ := q_bind h
    refine aw_ldk d_Office_rule_15 (by decide) e_t15 ?_
    refine aw_gets (j := 1) d_Office_rule_16 (by decide) (List.mem_of_getElem? (i := 751) (by decide +kernel)) ?_
    refine aw_iload_n d_Office_rule_19 rfl rfl ?_
    obtain ⟨t20, e_t20, h⟩ := q_bind h
    refine aw_ldk d_Office_rule_20 (by decide) e_t20 ?_
    obtain ⟨t21, e_t21, h⟩ := q_bind h
    refine aw_cS (v := (some (.int t21))) (As := [.int a2, .int t15, .int t20]) (rest := []) (st' := [.int t21]) d_Office_rule_21 kS_Office_50 ⟨Nat.le_of_ble_eq_true rfl, Nat.le_of_ble_eq_true rfl, Nat.le_of_ble_eq_true rfl, Nat.le_of_ble_eq_true rfl⟩ rfl rfl (Nat.le_of_ble_eq_true rfl) rfl (mt_Office_isWithin e_t21) ?_
    obtain ⟨⟨t24, M24⟩, e_t24, h⟩ := q_bind h
    cases t24 with
    | inr kx =>
      cases h
      exact aw_cSx (As := [.int t21]) (rest := []) d_Office_rule_24 kS_Office_54 ⟨Nat.le_of_ble_eq_true rfl, Nat.le_of_ble_eq_true rfl, Nat.le_of_ble_eq_true rfl, Nat.le_of_ble_eq_true rfl⟩ rfl rfl (Nat.le_of_ble_eq_true rfl) (mt_Office_needArgument e_t24) rfl ⟨rfl, rfl⟩
    | inl vx =>
      dsimp only [q_try] at h
      refine aw_cS (v := none) (As := [.int t21]) (rest := []) (st' := []) d_Office_rule_24 kS_Office_54 ⟨Nat.le_of_ble_eq_true rfl, Nat.le_of_ble_eq_true rfl, Nat.le_of_ble_eq_true rfl, Nat.le_of_ble_eq_true rfl⟩ rfl rfl (Nat.le_of_ble_eq_true rfl) rfl (mt_Office_needArgument e_t24) ?_
      refine aw_aload_n d_Office_rule_27 rfl rfl ?_
      obtain ⟨t28, e_t28, h⟩ := q_bind h
      refine aw_gtr d_Office_rule_28 fl_Office_10 (Or.inl ⟨_, rfl⟩) e_t28 ?_
      obtain ⟨t31, e_t31, h⟩ := q_bind h
      refine aw_gtr d_Office_rule_31 fl_Office_95 (Or.inr ⟨_, rfl⟩) e_t31 ?_
      refine aw_iload_n d_Office_rule_34 rfl rfl ?_
      refine aw_iload_n d_Office_rule_35 rfl rfl ?_
      obtain ⟨M36, e_M36, h⟩ := q_bind h
      refine aw_sti d_Office_rule_36 e_M36 ?_
      refine aw_aload_n d_Office_rule_37 rfl rfl ?_
      obtain ⟨o38, e_o38, h⟩ := q_bind h
      obtain ⟨⟨t38, M38⟩, e_t38, h⟩ := q_bind h
      dsimp only at h
      refine aw_cV (v := none) (As := []) (rest := []) (st' := []) d_Office_rule_38 kV_Office_68 (q_ob_spec e_o38).1 (q_ob_spec e_o38).2 ⟨Nat.le_of_ble_eq_true rfl, Nat.le_of_ble_eq_true rfl, Nat.le_of_ble_eq_true rfl, Nat.le_of_ble_eq_true rfl⟩ rfl rfl (Nat.le_of_ble_eq_true rfl) rfl (mt_Office_forgetPairings e_t38) ?_
      cases h
      exact aw_vreturn d_Office_rule_41 rfl (Nat.le_of_ble_eq_true rfl) (Nat.le_of_ble_eq_true rfl) ⟨rfl, rfl⟩
def y_Office_limit : MethodName := ⟨"CrewOffice", "limit", "(III)V"⟩
def u_Office_limit : am_U := ("CrewOffice", "limit", prog_1_method_7_code, 4, none, [])
def R_Office_limit : Room := { frames := 9, cells := 3, slots := 18, locals := 220 }
theorem d_Office_limit_0 : decode u_Office_limit.2.2.1 0 = .ok (.iload_n 1, 1) := by decide +kernel
theorem d_Office_limit_1 : decode u_Office_limit.2.2.1 1 = .ok (.iconst 0, 1) := by decide +kernel
theorem d_Office_limit_2 : decode u_Office_limit.2.2.1 2 = .ok (.iconst 3, 1) := by decide +kernel
theorem d_Office_limit_3 : decode u_Office_limit.2.2.1 3 = .ok (.invokestatic 50, 3) := by decide +kernel
theorem d_Office_limit_6 : decode u_Office_limit.2.2.1 6 = .ok (.invokestatic 54, 3) := by decide +kernel
theorem d_Office_limit_9 : decode u_Office_limit.2.2.1 9 = .ok (.iload_n 2, 1) := by decide +kernel
theorem d_Office_limit_10 : decode u_Office_limit.2.2.1 10 = .ok (.iconst 1, 1) := by decide +kernel
theorem d_Office_limit_11 : decode u_Office_limit.2.2.1 11 = .ok (.iconst 4, 1) := by decide +kernel
theorem d_Office_limit_12 : decode u_Office_limit.2.2.1 12 = .ok (.invokestatic 50, 3) := by decide +kernel
theorem d_Office_limit_15 : decode u_Office_limit.2.2.1 15 = .ok (.invokestatic 54, 3) := by decide +kernel
theorem d_Office_limit_18 : decode u_Office_limit.2.2.1 18 = .ok (.iload_n 3, 1) := by decide +kernel
theorem d_Office_limit_19 : decode u_Office_limit.2.2.1 19 = .ok (.bipush 60, 2) := by decide +kernel
theorem d_Office_limit_21 : decode u_Office_limit.2.2.1 21 = .ok (.sipush 1440, 3) := by decide +kernel
theorem d_Office_limit_24 : decode u_Office_limit.2.2.1 24 = .ok (.invokestatic 50, 3) := by decide +kernel
theorem d_Office_limit_27 : decode u_Office_limit.2.2.1 27 = .ok (.invokestatic 54, 3) := by decide +kernel
theorem d_Office_limit_30 : decode u_Office_limit.2.2.1 30 = .ok (.aload_n 0, 1) := by decide +kernel
theorem d_Office_limit_31 : decode u_Office_limit.2.2.1 31 = .ok (.getfield 10, 3) := by decide +kernel
theorem d_Office_limit_34 : decode u_Office_limit.2.2.1 34 = .ok (.getfield 98, 3) := by decide +kernel
theorem d_Office_limit_37 : decode u_Office_limit.2.2.1 37 = .ok (.iload_n 1, 1) := by decide +kernel
theorem d_Office_limit_38 : decode u_Office_limit.2.2.1 38 = .ok (.aaload, 1) := by decide +kernel
theorem d_Office_limit_39 : decode u_Office_limit.2.2.1 39 = .ok (.iload_n 2, 1) := by decide +kernel
theorem d_Office_limit_40 : decode u_Office_limit.2.2.1 40 = .ok (.iconst 1, 1) := by decide +kernel
theorem d_Office_limit_41 : decode u_Office_limit.2.2.1 41 = .ok (.isub, 1) := by decide +kernel
theorem d_Office_limit_42 : decode u_Office_limit.2.2.1 42 = .ok (.iload_n 3, 1) := by decide +kernel
theorem d_Office_limit_43 : decode u_Office_limit.2.2.1 43 = .ok (.iastore, 1) := by decide +kernel
theorem d_Office_limit_44 : decode u_Office_limit.2.2.1 44 = .ok (.aload_n 0, 1) := by decide +kernel
theorem d_Office_limit_45 : decode u_Office_limit.2.2.1 45 = .ok (.invokevirtual 68, 3) := by decide +kernel
theorem d_Office_limit_48 : decode u_Office_limit.2.2.1 48 = .ok (.return_, 1) := by decide +kernel
theorem w_Office_limit : am_code y_Office_limit u_Office_limit ∈ am_ws := am_mem (List.mem_of_getElem? (i := 759) (by decide +kernel)) rfl
def e_Office_limit (M : am_M) (a0 : Nat) (a1 : Int32) (a2 : Int32) (a3 : Int32) : Option ((Unit ⊕ Nat) × am_M) := (f_Office_isWithin M a1 (0 : Int32) (3 : Int32)).bind (fun t3 => (f_Office_needArgument M t3).bind (fun p6 => q_try p6 (fun _ M6 => (f_Office_isWithin M6 a2 (1 : Int32) (4 : Int32)).bind (fun t12 => (f_Office_needArgument M6 t12).bind (fun p15 => q_try p15 (fun _ M15 => (f_Office_isWithin M15 a3 (60 : Int32) (1440 : Int32)).bind (fun t24 => (f_Office_needArgument M15 t24).bind (fun p27 => q_try p27 (fun _ M27 => (q_gtr M27 a0 9 0).bind (fun t31 => (q_gtr M27 t31 3 4).bind (fun t34 => (q_ldr M27 t34 a1).bind (fun t38 => (q_sti M27 t38 (a2 - (1 : Int32)) a3).bind (fun M43 => (q_ob M43 a0 9).bind (fun o45 => (f_Office_forgetPairings M43 a0).bind (fun p45 => some (.inl (), p45.2))))))))))))))))
def f_Office_limit (M : am_M) (a0 : Nat) (a1 : Int32) (a2 : Int32) (a3 : Int32) : Option ((Unit ⊕ Nat) × am_M) := e_Office_limit M a0 a1 a2 a3
theorem fl_Office_98 : am_fl "CrewOffice" 98 3 4 := ⟨by decide, by decide, List.mem_of_getElem? (i := 235) (by decide +kernel)⟩
set_option maxHeartbeats 4000000 in
theorem mt_Office_limit {M : am_M} {a0 : Nat} {a1 : Int32} {a2 : Int32} {a3 : Int32} {res : Unit ⊕ Nat} {M' : am_M} (h : f_Office_limit M a0 a1 a2 a3 = some (res, M')) : AMet y_Office_limit u_Office_limit R_Office_limit [.ref a0, .int a1, .int a2, .int a3] M (fun r M2 => r = am_rU res ∧ M2 = M') := by
  refine am_met (by decide +kernel) w_Office_limit rfl rfl (Nat.le_of_ble_eq_true rfl) ?_
  show AW u_Office_limit R_Office_limit 0 0 0 [(0, .ref a0), (1, .int a1), (2, .int a2), (3, .int a3)] [] M (fun r M2 => r = am_rU res ∧ M2 = M')
  unfold f_Office_limit at h
  unfold e_Office_limit at h
  refine aw_iload_n d_Office_limit_0 rfl rfl ?_
  refine aw_iconst (v := 0) d_Office_limit_1 (by decide) ?_
  refine aw_iconst (v := 3) d_Office_limit_2 (by decide) ?_
  obtain ⟨t3, e_t3, h⟩ := q_bind h
  refine aw_cS (v := (some (.int t3))) (As := [.int a1, .int (0 : Int32), .int (3 : Int32)]) (rest := []) (st' := [.int t3]) d_Office_limit_3 kS_Office_50 ⟨Nat.le_of_ble_eq_true rfl, Nat.le_of_ble_eq_true rfl, Nat.le_of_ble_eq_true rfl, Nat.le_of_ble_eq_true rfl⟩ rfl rfl (Nat.le_of_ble_eq_true rfl) rfl (mt_Office_isWithin e_t3) ?_
  obtain ⟨⟨t6, M6⟩, e_t6, h⟩ := q_bind h
  cases t6 with
  | inr kx =>
    cases h
    exact aw_cSx (As := [.int t3]) (rest := []) d_Office_limit_6 kS_Office_54 ⟨Nat.le_of_ble_eq_true rfl, Nat.le_of_ble_eq_true rfl, Nat.le_of_ble_eq_true rfl, Nat.le_of_ble_eq_true rfl⟩ rfl rfl (Nat.le_of_ble_eq_true rfl) (mt_Office_needArgument e_t6) rfl ⟨rfl, rfl⟩
  | inl vx =>
    dsimp only [q_try] at h
    refine aw_cS (v := none) (As := [.int t3]) (rest := []) (st' := []) d_Office_limit_6 kS_Office_54 ⟨Nat.le_of_ble_eq_true rfl, Nat.le_of_ble_eq_true rfl, Nat.le_of_ble_eq_true rfl, Nat.le_of_ble_eq_true rfl⟩ rfl rfl (Nat.le_of_ble_eq_true rfl) rfl (mt_Office_needArgument e_t6) ?_
    refine aw_iload_n d_Office_limit_9 rfl rfl ?_
    refine aw_iconst (v := 1) d_Office_limit_10 (by decide) ?_
    refine aw_iconst (v := 4) d_Office_limit_11 (by decide) ?_
    obtain ⟨t12, e_t12, h⟩ := q_bind h
    refine aw_cS (v := (some (.int t12))) (As := [.int a2, .int (1 : Int32), .int (4 : Int32)]) (rest := []) (st' := [.int t12]) d_Office_limit_12 kS_Office_50 ⟨Nat.le_of_ble_eq_true rfl, Nat.le_of_ble_eq_true rfl, Nat.le_of_ble_eq_true rfl, Nat.le_of_ble_eq_true rfl⟩ rfl rfl (Nat.le_of_ble_eq_true rfl) rfl (mt_Office_isWithin e_t12) ?_
    obtain ⟨⟨t15, M15⟩, e_t15, h⟩ := q_bind h
    cases t15 with
    | inr kx =>
      cases h
      exact aw_cSx (As := [.int t12]) (rest := []) d_Office_limit_15 kS_Office_54 ⟨Nat.le_of_ble_eq_true rfl, Nat.le_of_ble_eq_true rfl, Nat.le_of_ble_eq_true rfl, Nat.le_of_ble_eq_true rfl⟩ rfl rfl (Nat.le_of_ble_eq_true rfl) (mt_Office_needArgument e_t15) rfl ⟨rfl, rfl⟩
    | inl vx =>
      dsimp only [q_try] at h
      refine aw_cS (v := none) (As := [.int t12]) (rest := []) (st' := []) d_Office_limit_15 kS_Office_54 ⟨Nat.le_of_ble_eq_true rfl, Nat.le_of_ble_eq_true rfl, Nat.le_of_ble_eq_true rfl, Nat.le_of_ble_eq_true rfl⟩ rfl rfl (Nat.le_of_ble_eq_true rfl) rfl (mt_Office_needArgument e_t15) ?_
      refine aw_iload_n d_Office_limit_18 rfl rfl ?_
      refine aw_bipush (v := 60) d_Office_limit_19 (by decide) ?_
      refine aw_sipush (v := 1440) d_Office_limit_21 (by decide) ?_
      obtain ⟨t24, e_t24, h⟩ := q_bind h
      refine aw_cS (v := (some (.int t24))) (As := [.int a3, .int (60 : Int32), .int (1440 : Int32)]) (rest := []) (st' := [.int t24]) d_Office_limit_24 kS_Office_50 ⟨Nat.le_of_ble_eq_true rfl, Nat.le_of_ble_eq_true rfl, Nat.le_of_ble_eq_true rfl, Nat.le_of_ble_eq_true rfl⟩ rfl rfl (Nat.le_of_ble_eq_true rfl) rfl (mt_Office_isWithin e_t24) ?_
      obtain ⟨⟨t27, M27⟩, e_t27, h⟩ := q_bind h
      cases t27 with
      | inr kx =>
        cases h
        exact aw_cSx (As := [.int t24]) (rest := []) d_Office_limit_27 kS_Office_54 ⟨Nat.le_of_ble_eq_true rfl, Nat.le_of_ble_eq_true rfl, Nat.le_of_ble_eq_true rfl, Nat.le_of_ble_eq_true rfl⟩ rfl rfl (Nat.le_of_ble_eq_true rfl) (mt_Office_needArgument e_t27) rfl ⟨rfl, rfl⟩
      | inl vx =>
        dsimp only [q_try] at h
        refine aw_cS (v := none) (As := [.int t24]) (rest := []) (st' := []) d_Office_limit_27 kS_Office_54 ⟨Nat.le_of_ble_eq_true rfl, Nat.le_of_ble_eq_true rfl, Nat.le_of_ble_eq_true rfl, Nat.le_of_ble_eq_true rfl⟩ rfl rfl (Nat.le_of_ble_eq_true rfl) rfl (mt_Office_needArgument e_t27) ?_
        refine aw_aload_n d_Office_limit_30 rfl rfl ?_
        obtain ⟨t31, e_t31, h⟩ := q_bind h
        refine aw_gtr d_Office_limit_31 fl_Office_10 (Or.inl ⟨_, rfl⟩) e_t31 ?_
        obtain ⟨t34, e_t34, h⟩ := q_bind h
        refine aw_gtr d_Office_limit_34 fl_Office_98 (Or.inr ⟨_, rfl⟩) e_t34 ?_
        refine aw_iload_n d_Office_limit_37 rfl rfl ?_
        obtain ⟨t38, e_t38, h⟩ := q_bind h
        refine aw_ldr d_Office_limit_38 e_t38 ?_
        refine aw_iload_n d_Office_limit_39 rfl rfl ?_
        refine aw_iconst (v := 1) d_Office_limit_40 (by decide) ?_
        refine aw_isub d_Office_limit_41 ?_
        refine aw_iload_n d_Office_limit_42 rfl rfl ?_
        obtain ⟨M43, e_M43, h⟩ := q_bind h
        refine aw_sti d_Office_limit_43 e_M43 ?_
        refine aw_aload_n d_Office_limit_44 rfl rfl ?_
        obtain ⟨o45, e_o45, h⟩ := q_bind h
        obtain ⟨⟨t45, M45⟩, e_t45, h⟩ := q_bind h
        dsimp only at h
        refine aw_cV (v := none) (As := []) (rest := []) (st' := []) d_Office_limit_45 kV_Office_68 (q_ob_spec e_o45).1 (q_ob_spec e_o45).2 ⟨Nat.le_of_ble_eq_true rfl, Nat.le_of_ble_eq_true rfl, Nat.le_of_ble_eq_true rfl, Nat.le_of_ble_eq_true rfl⟩ rfl rfl (Nat.le_of_ble_eq_true rfl) rfl (mt_Office_forgetPairings e_t45) ?_
        cases h
        exact aw_vreturn d_Office_limit_48 rfl (Nat.le_of_ble_eq_true rfl) (Nat.le_of_ble_eq_true rfl) ⟨rfl, rfl⟩
def y_Office_crew : MethodName := ⟨"CrewOffice", "crew", "(IIIII)V"⟩
def u_Office_crew : am_U := ("CrewOffice", "crew", prog_1_method_8_code, 6, none, [])
def R_Office_crew : Room := { frames := 9, cells := 5, slots := 30, locals := 220 }
theorem d_Office_crew_0 : decode u_Office_crew.2.2.1 0 = .ok (.iload_n 1, 1) := by decide +kernel
theorem d_Office_crew_1 : decode u_Office_crew.2.2.1 1 = .ok (.iconst 0, 1) := by decide +kernel
theorem d_Office_crew_2 : decode u_Office_crew.2.2.1 2 = .ok (.iconst 3, 1) := by decide +kernel
theorem d_Office_crew_3 : decode u_Office_crew.2.2.1 3 = .ok (.invokestatic 50, 3) := by decide +kernel
theorem d_Office_crew_6 : decode u_Office_crew.2.2.1 6 = .ok (.invokestatic 54, 3) := by decide +kernel
theorem d_Office_crew_9 : decode u_Office_crew.2.2.1 9 = .ok (.iload_n 2, 1) := by decide +kernel
theorem d_Office_crew_10 : decode u_Office_crew.2.2.1 10 = .ok (.iconst 0, 1) := by decide +kernel
theorem d_Office_crew_11 : decode u_Office_crew.2.2.1 11 = .ok (.iconst 4, 1) := by decide +kernel
theorem d_Office_crew_12 : decode u_Office_crew.2.2.1 12 = .ok (.invokestatic 50, 3) := by decide +kernel
theorem d_Office_crew_15 : decode u_Office_crew.2.2.1 15 = .ok (.invokestatic 54, 3) := by decide +kernel
theorem d_Office_crew_18 : decode u_Office_crew.2.2.1 18 = .ok (.iload_n 3, 1) := by decide +kernel
theorem d_Office_crew_19 : decode u_Office_crew.2.2.1 19 = .ok (.iconst 0, 1) := by decide +kernel
theorem d_Office_crew_20 : decode u_Office_crew.2.2.1 20 = .ok (.bipush 99, 2) := by decide +kernel
theorem d_Office_crew_22 : decode u_Office_crew.2.2.1 22 = .ok (.invokestatic 50, 3) := by decide +kernel
theorem d_Office_crew_25 : decode u_Office_crew.2.2.1 25 = .ok (.invokestatic 54, 3) := by decide +kernel
theorem d_Office_crew_28 : decode u_Office_crew.2.2.1 28 = .ok (.iload 4, 2) := by decide +kernel
theorem d_Office_crew_30 : decode u_Office_crew.2.2.1 30 = .ok (.iconst 0, 1) := by decide +kernel
theorem d_Office_crew_31 : decode u_Office_crew.2.2.1 31 = .ok (.bipush 7, 2) := by decide +kernel
theorem d_Office_crew_33 : decode u_Office_crew.2.2.1 33 = .ok (.invokestatic 50, 3) := by decide +kernel
theorem d_Office_crew_36 : decode u_Office_crew.2.2.1 36 = .ok (.invokestatic 54, 3) := by decide +kernel
theorem d_Office_crew_39 : decode u_Office_crew.2.2.1 39 = .ok (.iload 5, 2) := by decide +kernel
theorem d_Office_crew_41 : decode u_Office_crew.2.2.1 41 = .ok (.iconst 0, 1) := by decide +kernel
theorem d_Office_crew_42 : decode u_Office_crew.2.2.1 42 = .ok (.sipush 20000, 3) := by decide +kernel
theorem d_Office_crew_45 : decode u_Office_crew.2.2.1 45 = .ok (.invokestatic 50, 3) := by decide +kernel
theorem d_Office_crew_48 : decode u_Office_crew.2.2.1 48 = .ok (.invokestatic 54, 3) := by decide +kernel
theorem d_Office_crew_51 : decode u_Office_crew.2.2.1 51 = .ok (.aload_n 0, 1) := by decide +kernel
theorem d_Office_crew_52 : decode u_Office_crew.2.2.1 52 = .ok (.getfield 10, 3) := by decide +kernel
theorem d_Office_crew_55 : decode u_Office_crew.2.2.1 55 = .ok (.getfield 102, 3) := by decide +kernel
theorem d_Office_crew_58 : decode u_Office_crew.2.2.1 58 = .ok (.iload_n 1, 1) := by decide +kernel
theorem d_Office_crew_59 : decode u_Office_crew.2.2.1 59 = .ok (.aaload, 1) := by decide +kernel
theorem d_Office_crew_60 : decode u_Office_crew.2.2.1 60 = .ok (.iload_n 2, 1) := by decide +kernel
theorem d_Office_crew_61 : decode u_Office_crew.2.2.1 61 = .ok (.iload_n 3, 1) := by decide +kernel
theorem d_Office_crew_62 : decode u_Office_crew.2.2.1 62 = .ok (.iload 4, 2) := by decide +kernel
theorem d_Office_crew_64 : decode u_Office_crew.2.2.1 64 = .ok (.iload 5, 2) := by decide +kernel
theorem d_Office_crew_66 : decode u_Office_crew.2.2.1 66 = .ok (.invokevirtual 106, 3) := by decide +kernel
theorem d_Office_crew_69 : decode u_Office_crew.2.2.1 69 = .ok (.aload_n 0, 1) := by decide +kernel
theorem d_Office_crew_70 : decode u_Office_crew.2.2.1 70 = .ok (.invokevirtual 68, 3) := by decide +kernel
theorem d_Office_crew_73 : decode u_Office_crew.2.2.1 73 = .ok (.return_, 1) := by decide +kernel
theorem w_Office_crew : am_code y_Office_crew u_Office_crew ∈ am_ws := am_mem (List.mem_of_getElem? (i := 766) (by decide +kernel)) rfl
def e_Office_crew (M : am_M) (a0 : Nat) (a1 : Int32) (a2 : Int32) (a3 : Int32) (a4 : Int32) (a5 : Int32) : Option ((Unit ⊕ Nat) × am_M) := (f_Office_isWithin M a1 (0 : Int32) (3 : Int32)).bind (fun t3 => (f_Office_needArgument M t3).bind (fun p6 => q_try p6 (fun _ M6 => (f_Office_isWithin M6 a2 (0 : Int32) (4 : Int32)).bind (fun t12 => (f_Office_needArgument M6 t12).bind (fun p15 => q_try p15 (fun _ M15 => (f_Office_isWithin M15 a3 (0 : Int32) (99 : Int32)).bind (fun t22 => (f_Office_needArgument M15 t22).bind (fun p25 => q_try p25 (fun _ M25 => (f_Office_isWithin M25 a4 (0 : Int32) (7 : Int32)).bind (fun t33 => (f_Office_needArgument M25 t33).bind (fun p36 => q_try p36 (fun _ M36 => (f_Office_isWithin M36 a5 (0 : Int32) (20000 : Int32)).bind (fun t45 => (f_Office_needArgument M36 t45).bind (fun p48 => q_try p48 (fun _ M48 => (q_gtr M48 a0 9 0).bind (fun t52 => (q_gtr M48 t52 3 2).bind (fun t55 => (q_ldr M48 t55 a1).bind (fun t59 => (q_ob M48 t59 2).bind (fun o66 => (f_Member_set M48 t59 a2 a3 a4 a5).bind (fun p66 => (q_ob p66.2 a0 9).bind (fun o70 => (f_Office_forgetPairings p66.2 a0).bind (fun p70 => some (.inl (), p70.2)))))))))))))))))))))))
def f_Office_crew (M : am_M) (a0 : Nat) (a1 : Int32) (a2 : Int32) (a3 : Int32) (a4 : Int32) (a5 : Int32) : Option ((Unit ⊕ Nat) × am_M) := e_Office_crew M a0 a1 a2 a3 a4 a5
theorem kV_Office_106 : am_kV "CrewOffice" 106 2 y_Member_set u_Member_set 4 := ⟨List.mem_of_getElem? (i := 767) (by decide +kernel), ⟨List.mem_of_getElem? (i := 768) (by decide +kernel), List.mem_of_getElem? (i := 769) (by decide +kernel)⟩, List.mem_of_getElem? (i := 58) (by decide +kernel), w_Member_set, ⟨⟨by decide +kernel, by decide +kernel⟩, by decide +kernel⟩⟩
set_option maxHeartbeats 4000000 in
theorem mt_Office_crew {M : am_M} {a0 : Nat} {a1 : Int32} {a2 : Int32} {a3 : Int32} {a4 : Int32} {a5 : Int32} {res : Unit ⊕ Nat} {M' : am_M} (h : f_Office_crew M a0 a1 a2 a3 a4 a5 = some (res, M')) : AMet y_Office_crew u_Office_crew R_Office_crew [.ref a0, .int a1, .int a2, .int a3, .int a4, .int a5] M (fun r M2 => r = am_rU res ∧ M2 = M') := by
  refine am_met (by decide +kernel) w_Office_crew rfl rfl (Nat.le_of_ble_eq_true rfl) ?_
  show AW u_Office_crew R_Office_crew 0 0 0 [(0, .ref a0), (1, .int a1), (2, .int a2), (3, .int a3), (4, .int a4), (5, .int a5)] [] M (fun r M2 => r = am_rU res ∧ M2 = M')
  unfold f_Office_crew at h
  unfold e_Office_crew at h
  refine aw_iload_n d_Office_crew_0 rfl rfl ?_
  refine aw_iconst (v := 0) d_Office_crew_1 (by decide) ?_
  refine aw_iconst (v := 3) d_Office_crew_2 (by decide) ?_
  obtain ⟨t3, e_t3, h⟩ := q_bind h
  refine aw_cS (v := (some (.int t3))) (As := [.int a1, .int (0 : Int32), .int (3 : Int32)]) (rest := []) (st' := [.int t3]) d_Office_crew_3 kS_Office_50 ⟨Nat.le_of_ble_eq_true rfl, Nat.le_of_ble_eq_true rfl, Nat.le_of_ble_eq_true rfl, Nat.le_of_ble_eq_true rfl⟩ rfl rfl (Nat.le_of_ble_eq_true rfl) rfl (mt_Office_isWithin e_t3) ?_
  obtain ⟨⟨t6, M6⟩, e_t6, h⟩ := q_bind h
  cases t6 with
  | inr kx =>
    cases h
    exact aw_cSx (As := [.int t3]) (rest := []) d_Office_crew_6 kS_Office_54 ⟨Nat.le_of_ble_eq_true rfl, Nat.le_of_ble_eq_true rfl, Nat.le_of_ble_eq_true rfl, Nat.le_of_ble_eq_true rfl⟩ rfl rfl (Nat.le_of_ble_eq_true rfl) (mt_Office_needArgument e_t6) rfl ⟨rfl, rfl⟩
  | inl vx =>
    dsimp only [q_try] at h
    refine aw_cS (v := none) (As := [.int t3]) (rest := []) (st' := []) d_Office_crew_6 kS_Office_54 ⟨Nat.le_of_ble_eq_true rfl, Nat.le_of_ble_eq_true rfl, Nat.le_of_ble_eq_true rfl, Nat.le_of_ble_eq_true rfl⟩ rfl rfl (Nat.le_of_ble_eq_true rfl) rfl (mt_Office_needArgument e_t6) ?_
    refine aw_iload_n d_Office_crew_9 rfl rfl ?_
    refine aw_iconst (v := 0) d_Office_crew_10 (by decide) ?_
    refine aw_iconst (v := 4) d_Office_crew_11 (by decide) ?_
    obtain ⟨t12, e_t12, h⟩ := q_bind h
    refine aw_cS (v := (some (.int t12))) (As := [.int a2, .int (0 : Int32), .int (4 : Int32)]) (rest := []) (st' := [.int t12]) d_Office_crew_12 kS_Office_50 ⟨Nat.le_of_ble_eq_true rfl, Nat.le_of_ble_eq_true rfl, Nat.le_of_ble_eq_true rfl, Nat.le_of_ble_eq_true rfl⟩ rfl rfl (Nat.le_of_ble_eq_true rfl) rfl (mt_Office_isWithin e_t12) ?_
    obtain ⟨⟨t15, M15⟩, e_t15, h⟩ := q_bind h
    cases t15 with
    | inr kx =>
      cases h
      exact aw_cSx (As := [.int t12]) (rest := []) d_Office_crew_15 kS_Office_54 ⟨Nat.le_of_ble_eq_true rfl, Nat.le_of_ble_eq_true rfl, Nat.le_of_ble_eq_true rfl, Nat.le_of_ble_eq_true rfl⟩ rfl rfl (Nat.le_of_ble_eq_true rfl) (mt_Office_needArgument e_t15) rfl ⟨rfl, rfl⟩
    | inl vx =>
      dsimp only [q_try] at h
      refine aw_cS (v := none) (As := [.int t12]) (rest := []) (st' := []) d_Office_crew_15 kS_Office_54 ⟨Nat.le_of_ble_eq_true rfl, Nat.le_of_ble_eq_true rfl, Nat.le_of_ble_eq_true rfl, Nat.le_of_ble_eq_true rfl⟩ rfl rfl (Nat.le_of_ble_eq_true rfl) rfl (mt_Office_needArgument e_t15) ?_
      refine aw_iload_n d_Office_crew_18 rfl rfl ?_
      refine aw_iconst (v := 0) d_Office_crew_19 (by decide) ?_
      refine aw_bipush (v := 99) d_Office_crew_20 (by decide) ?_
      obtain ⟨t22, e_t22, h⟩ := q_bind h
      refine aw_cS (v := (some (.int t22))) (As := [.int a3, .int (0 : Int32), .int (99 : Int32)]) (rest := []) (st' := [.int t22]) d_Office_crew_22 kS_Office_50 ⟨Nat.le_of_ble_eq_true rfl, Nat.le_of_ble_eq_true rfl, Nat.le_of_ble_eq_true rfl, Nat.le_of_ble_eq_true rfl⟩ rfl rfl (Nat.le_of_ble_eq_true rfl) rfl (mt_Office_isWithin e_t22) ?_
      obtain ⟨⟨t25, M25⟩, e_t25, h⟩ := q_bind h
      cases t25 with
      | inr kx =>
        cases h
        exact aw_cSx (As := [.int t22]) (rest := []) d_Office_crew_25 kS_Office_54 ⟨Nat.le_of_ble_eq_true rfl, Nat.le_of_ble_eq_true rfl, Nat.le_of_ble_eq_true rfl, Nat.le_of_ble_eq_true rfl⟩ rfl rfl (Nat.le_of_ble_eq_true rfl) (mt_Office_needArgument e_t25) rfl ⟨rfl, rfl⟩
      | inl vx =>
        dsimp only [q_try] at h
        refine aw_cS (v := none) (As := [.int t22]) (rest := []) (st' := []) d_Office_crew_25 kS_Office_54 ⟨Nat.le_of_ble_eq_true rfl, Nat.le_of_ble_eq_true rfl, Nat.le_of_ble_eq_true rfl, Nat.le_of_ble_eq_true rfl⟩ rfl rfl (Nat.le_of_ble_eq_true rfl) rfl (mt_Office_needArgument e_t25) ?_
        refine aw_iload d_Office_crew_28 rfl ?_
        refine aw_iconst (v := 0) d_Office_crew_30 (by decide) ?_
        refine aw_bipush (v := 7) d_Office_crew_31 (by decide) ?_
        obtain ⟨t33, e_t33, h⟩ := q_bind h
        refine aw_cS (v := (some (.int t33))) (As := [.int a4, .int (0 : Int32), .int (7 : Int32)]) (rest := []) (st' := [.int t33]) d_Office_crew_33 kS_Office_50 ⟨Nat.le_of_ble_eq_true rfl, Nat.le_of_ble_eq_true rfl, Nat.le_of_ble_eq_true rfl, Nat.le_of_ble_eq_true rfl⟩ rfl rfl (Nat.le_of_ble_eq_true rfl) rfl (mt_Office_isWithin e_t33) ?_
        obtain ⟨⟨t36, M36⟩, e_t36, h⟩ := q_bind h
        cases t36 with
        | inr kx =>
          cases h
          exact aw_cSx (As := [.int t33]) (rest := []) d_Office_crew_36 kS_Office_54 ⟨Nat.le_of_ble_eq_true rfl, Nat.le_of_ble_eq_true rfl, Nat.le_of_ble_eq_true rfl, Nat.le_of_ble_eq_true rfl⟩ rfl rfl (Nat.le_of_ble_eq_true rfl) (mt_Office_needArgument e_t36) rfl ⟨rfl, rfl⟩
        | inl vx =>
          dsimp only [q_try] at h
          refine aw_cS (v := none) (As := [.int t33]) (rest := []) (st' := []) d_Office_crew_36 kS_Office_54 ⟨Nat.le_of_ble_eq_true rfl, Nat.le_of_ble_eq_true rfl, Nat.le_of_ble_eq_true rfl, Nat.le_of_ble_eq_true rfl⟩ rfl rfl (Nat.le_of_ble_eq_true rfl) rfl (mt_Office_needArgument e_t36) ?_
          refine aw_iload d_Office_crew_39 rfl ?_
          refine aw_iconst (v := 0) d_Office_crew_41 (by decide) ?_
          refine aw_sipush (v := 20000) d_Office_crew_42 (by decide) ?_
          obtain ⟨t45, e_t45, h⟩ := q_bind h
          refine aw_cS (v := (some (.int t45))) (As := [.int a5, .int (0 : Int32), .int (20000 : Int32)]) (rest := []) (st' := [.int t45]) d_Office_crew_45 kS_Office_50 ⟨Nat.le_of_ble_eq_true rfl, Nat.le_of_ble_eq_true rfl, Nat.le_of_ble_eq_true rfl, Nat.le_of_ble_eq_true rfl⟩ rfl rfl (Nat.le_of_ble_eq_true rfl) rfl (mt_Office_isWithin e_t45) ?_
          obtain ⟨⟨t48, M48⟩, e_t48, h⟩ := q_bind h
          cases t48 with
          | inr kx =>
            cases h
            exact aw_cSx (As := [.int t45]) (rest := []) d_Office_crew_48 kS_Office_54 ⟨Nat.le_of_ble_eq_true rfl, Nat.le_of_ble_eq_true rfl, Nat.le_of_ble_eq_true rfl, Nat.le_of_ble_eq_true rfl⟩ rfl rfl (Nat.le_of_ble_eq_true rfl) (mt_Office_needArgument e_t48) rfl ⟨rfl, rfl⟩
          | inl vx =>
            dsimp only [q_try] at h
            refine aw_cS (v := none) (As := [.int t45]) (rest := []) (st' := []) d_Office_crew_48 kS_Office_54 ⟨Nat.le_of_ble_eq_true rfl, Nat.le_of_ble_eq_true rfl, Nat.le_of_ble_eq_true rfl, Nat.le_of_ble_eq_true rfl⟩ rfl rfl (Nat.le_of_ble_eq_true rfl) rfl (mt_Office_needArgument e_t48) ?_
            refine aw_aload_n d_Office_crew_51 rfl rfl ?_
            obtain ⟨t52, e_t52, h⟩ := q_bind h
            refine aw_gtr d_Office_crew_52 fl_Office_10 (Or.inl ⟨_, rfl⟩) e_t52 ?_
            obtain ⟨t55, e_t55, h⟩ := q_bind h
            refine aw_gtr d_Office_crew_55 fl_Office_102 (Or.inr ⟨_, rfl⟩) e_t55 ?_
            refine aw_iload_n d_Office_crew_58 rfl rfl ?_
            obtain ⟨t59, e_t59, h⟩ := q_bind h
            refine aw_ldr d_Office_crew_59 e_t59 ?_
            refine aw_iload_n d_Office_crew_60 rfl rfl ?_
            refine aw_iload_n d_Office_crew_61 rfl rfl ?_
            refine aw_iload d_Office_crew_62 rfl ?_
            refine aw_iload d_Office_crew_64 rfl ?_
            obtain ⟨o66, e_o66, h⟩ := q_bind h
            obtain ⟨⟨t66, M66⟩, e_t66, h⟩ := q_bind h
            dsimp only at h
            refine aw_cV (v := none) (As := [.int a2, .int a3, .int a4, .int a5]) (rest := []) (st' := []) d_Office_crew_66 kV_Office_106 (q_ob_spec e_o66).1 (q_ob_spec e_o66).2 ⟨Nat.le_of_ble_eq_true rfl, Nat.le_of_ble_eq_true rfl, Nat.le_of_ble_eq_true rfl, Nat.le_of_ble_eq_true rfl⟩ rfl rfl (Nat.le_of_ble_eq_true rfl) rfl (mt_Member_set e_t66) ?_
            refine aw_aload_n d_Office_crew_69 rfl rfl ?_
            obtain ⟨o70, e_o70, h⟩ := q_bind h
            obtain ⟨⟨t70, M70⟩, e_t70, h⟩ := q_bind h
            dsimp only at h
            refine aw_cV (v := none) (As := []) (rest := []) (st' := []) d_Office_crew_70 kV_Office_68 (q_ob_spec e_o70).1 (q_ob_spec e_o70).2 ⟨Nat.le_of_ble_eq_true rfl, Nat.le_of_ble_eq_true rfl, Nat.le_of_ble_eq_true rfl, Nat.le_of_ble_eq_true rfl⟩ rfl rfl (Nat.le_of_ble_eq_true rfl) rfl (mt_Office_forgetPairings e_t70) ?_
            cases h
            exact aw_vreturn d_Office_crew_73 rfl (Nat.le_of_ble_eq_true rfl) (Nat.le_of_ble_eq_true rfl) ⟨rfl, rfl⟩
def y_Office_off : MethodName := ⟨"CrewOffice", "off", "(III)V"⟩
def u_Office_off : am_U := ("CrewOffice", "off", prog_1_method_9_code, 4, none, [])
def R_Office_off : Room := { frames := 9, cells := 4, slots := 24, locals := 220 }
theorem d_Office_off_0 : decode u_Office_off.2.2.1 0 = .ok (.iload_n 1, 1) := by decide +kernel
theorem d_Office_off_1 : decode u_Office_off.2.2.1 1 = .ok (.iconst 0, 1) := by decide +kernel
theorem d_Office_off_2 : decode u_Office_off.2.2.1 2 = .ok (.iconst 3, 1) := by decide +kernel
theorem d_Office_off_3 : decode u_Office_off.2.2.1 3 = .ok (.invokestatic 50, 3) := by decide +kernel
theorem d_Office_off_6 : decode u_Office_off.2.2.1 6 = .ok (.invokestatic 54, 3) := by decide +kernel
theorem d_Office_off_9 : decode u_Office_off.2.2.1 9 = .ok (.iload_n 2, 1) := by decide +kernel
theorem d_Office_off_10 : decode u_Office_off.2.2.1 10 = .ok (.iconst 0, 1) := by decide +kernel
theorem d_Office_off_11 : decode u_Office_off.2.2.1 11 = .ok (.sipush 20160, 3) := by decide +kernel
theorem d_Office_off_14 : decode u_Office_off.2.2.1 14 = .ok (.invokestatic 50, 3) := by decide +kernel
theorem d_Office_off_17 : decode u_Office_off.2.2.1 17 = .ok (.invokestatic 54, 3) := by decide +kernel
theorem d_Office_off_20 : decode u_Office_off.2.2.1 20 = .ok (.iload_n 3, 1) := by decide +kernel
theorem d_Office_off_21 : decode u_Office_off.2.2.1 21 = .ok (.iconst 0, 1) := by decide +kernel
theorem d_Office_off_22 : decode u_Office_off.2.2.1 22 = .ok (.sipush 20160, 3) := by decide +kernel
theorem d_Office_off_25 : decode u_Office_off.2.2.1 25 = .ok (.invokestatic 50, 3) := by decide +kernel
theorem d_Office_off_28 : decode u_Office_off.2.2.1 28 = .ok (.invokestatic 54, 3) := by decide +kernel
theorem d_Office_off_31 : decode u_Office_off.2.2.1 31 = .ok (.aload_n 0, 1) := by decide +kernel
theorem d_Office_off_32 : decode u_Office_off.2.2.1 32 = .ok (.getfield 10, 3) := by decide +kernel
theorem d_Office_off_35 : decode u_Office_off.2.2.1 35 = .ok (.getfield 102, 3) := by decide +kernel
theorem d_Office_off_38 : decode u_Office_off.2.2.1 38 = .ok (.iload_n 1, 1) := by decide +kernel
theorem d_Office_off_39 : decode u_Office_off.2.2.1 39 = .ok (.aaload, 1) := by decide +kernel
theorem d_Office_off_40 : decode u_Office_off.2.2.1 40 = .ok (.getfield 111, 3) := by decide +kernel
theorem d_Office_off_43 : decode u_Office_off.2.2.1 43 = .ok (.invokestatic 112, 3) := by decide +kernel
theorem d_Office_off_46 : decode u_Office_off.2.2.1 46 = .ok (.aload_n 0, 1) := by decide +kernel
theorem d_Office_off_47 : decode u_Office_off.2.2.1 47 = .ok (.getfield 10, 3) := by decide +kernel
theorem d_Office_off_50 : decode u_Office_off.2.2.1 50 = .ok (.getfield 102, 3) := by decide +kernel
theorem d_Office_off_53 : decode u_Office_off.2.2.1 53 = .ok (.iload_n 1, 1) := by decide +kernel
theorem d_Office_off_54 : decode u_Office_off.2.2.1 54 = .ok (.aaload, 1) := by decide +kernel
theorem d_Office_off_55 : decode u_Office_off.2.2.1 55 = .ok (.iload_n 2, 1) := by decide +kernel
theorem d_Office_off_56 : decode u_Office_off.2.2.1 56 = .ok (.putfield 115, 3) := by decide +kernel
theorem d_Office_off_59 : decode u_Office_off.2.2.1 59 = .ok (.aload_n 0, 1) := by decide +kernel
theorem d_Office_off_60 : decode u_Office_off.2.2.1 60 = .ok (.getfield 10, 3) := by decide +kernel
theorem d_Office_off_63 : decode u_Office_off.2.2.1 63 = .ok (.getfield 102, 3) := by decide +kernel
theorem d_Office_off_66 : decode u_Office_off.2.2.1 66 = .ok (.iload_n 1, 1) := by decide +kernel
theorem d_Office_off_67 : decode u_Office_off.2.2.1 67 = .ok (.aaload, 1) := by decide +kernel
theorem d_Office_off_68 : decode u_Office_off.2.2.1 68 = .ok (.iload_n 3, 1) := by decide +kernel
theorem d_Office_off_69 : decode u_Office_off.2.2.1 69 = .ok (.putfield 119, 3) := by decide +kernel
theorem d_Office_off_72 : decode u_Office_off.2.2.1 72 = .ok (.aload_n 0, 1) := by decide +kernel
theorem d_Office_off_73 : decode u_Office_off.2.2.1 73 = .ok (.invokevirtual 68, 3) := by decide +kernel
theorem d_Office_off_76 : decode u_Office_off.2.2.1 76 = .ok (.return_, 1) := by decide +kernel
theorem w_Office_off : am_code y_Office_off u_Office_off ∈ am_ws := am_mem (List.mem_of_getElem? (i := 778) (by decide +kernel)) rfl
def e_Office_off (M : am_M) (a0 : Nat) (a1 : Int32) (a2 : Int32) (a3 : Int32) : Option ((Unit ⊕ Nat) × am_M) := (f_Office_isWithin M a1 (0 : Int32) (3 : Int32)).bind (fun t3 => (f_Office_needArgument M t3).bind (fun p6 => q_try p6 (fun _ M6 => (f_Office_isWithin M6 a2 (0 : Int32) (20160 : Int32)).bind (fun t14 => (f_Office_needArgument M6 t14).bind (fun p17 => q_try p17 (fun _ M17 => (f_Office_isWithin M17 a3 (0 : Int32) (20160 : Int32)).bind (fun t25 => (f_Office_needArgument M17 t25).bind (fun p28 => q_try p28 (fun _ M28 => (q_gtr M28 a0 9 0).bind (fun t32 => (q_gtr M28 t32 3 2).bind (fun t35 => (q_ldr M28 t35 a1).bind (fun t39 => (q_gti M28 t39 2 0).bind (fun t40 => (f_Office_needElement M28 t40).bind (fun p43 => q_try p43 (fun _ M43 => (q_gtr M43 a0 9 0).bind (fun t47 => (q_gtr M43 t47 3 2).bind (fun t50 => (q_ldr M43 t50 a1).bind (fun t54 => (q_pti M43 t54 2 5 a2).bind (fun M56 => (q_gtr M56 a0 9 0).bind (fun t60 => (q_gtr M56 t60 3 2).bind (fun t63 => (q_ldr M56 t63 a1).bind (fun t67 => (q_pti M56 t67 2 6 a3).bind (fun M69 => (q_ob M69 a0 9).bind (fun o73 => (f_Office_forgetPairings M69 a0).bind (fun p73 => some (.inl (), p73.2))))))))))))))))))))))))))
def f_Office_off (M : am_M) (a0 : Nat) (a1 : Int32) (a2 : Int32) (a3 : Int32) : Option ((Unit ⊕ Nat) × am_M) := e_Office_off M a0 a1 a2 a3
theorem fl_Office_115 : am_fl "CrewOffice" 115 2 5 := ⟨by decide, by decide, List.mem_of_getElem? (i := 179) (by decide +kernel)⟩
theorem fl_Office_119 : am_fl "CrewOffice" 119 2 6 := ⟨by decide, by decide, List.mem_of_getElem? (i := 181) (by decide +kernel)⟩
set_option maxHeartbeats 4000000 in
theorem mt_Office_off {M : am_M} {a0 : Nat} {a1 : Int32} {a2 : Int32} {a3 : Int32} {res : Unit ⊕ Nat} {M' : am_M} (h : f_Office_off M a0 a1 a2 a3 = some (res, M')) : AMet y_Office_off u_Office_off R_Office_off [.ref a0, .int a1, .int a2, .int a3] M (fun r M2 => r = am_rU res ∧ M2 = M') := by
  refine am_met (by decide +kernel) w_Office_off rfl rfl (Nat.le_of_ble_eq_true rfl) ?_
  show AW u_Office_off R_Office_off 0 0 0 [(0, .ref a0), (1, .int a1), (2, .int a2), (3, .int a3)] [] M (fun r M2 => r = am_rU res ∧ M2 = M')
  unfold f_Office_off at h
  unfold e_Office_off at h
  refine aw_iload_n d_Office_off_0 rfl rfl ?_
  refine aw_iconst (v := 0) d_Office_off_1 (by decide) ?_
  refine aw_iconst (v := 3) d_Office_off_2 (by decide) ?_
  obtain ⟨t3, e_t3, h⟩ := q_bind h
  refine aw_cS (v := (some (.int t3))) (As := [.int a1, .int (0 : Int32), .int (3 : Int32)]) (rest := []) (st' := [.int t3]) d_Office_off_3 kS_Office_50 ⟨Nat.le_of_ble_eq_true rfl, Nat.le_of_ble_eq_true rfl, Nat.le_of_ble_eq_true rfl, Nat.le_of_ble_eq_true rfl⟩ rfl rfl (Nat.le_of_ble_eq_true rfl) rfl (mt_Office_isWithin e_t3) ?_
  obtain ⟨⟨t6, M6⟩, e_t6, h⟩ := q_bind h
  cases t6 with
  | inr kx =>
    cases h
    exact aw_cSx (As := [.int t3]) (rest := []) d_Office_off_6 kS_Office_54 ⟨Nat.le_of_ble_eq_true rfl, Nat.le_of_ble_eq_true rfl, Nat.le_of_ble_eq_true rfl, Nat.le_of_ble_eq_true rfl⟩ rfl rfl (Nat.le_of_ble_eq_true rfl) (mt_Office_needArgument e_t6) rfl ⟨rfl, rfl⟩
  | inl vx =>
    dsimp only [q_try] at h
    refine aw_cS (v := none) (As := [.int t3]) (rest := []) (st' := []) d_Office_off_6 kS_Office_54 ⟨Nat.le_of_ble_eq_true rfl, Nat.le_of_ble_eq_true rfl, Nat.le_of_ble_eq_true rfl, Nat.le_of_ble_eq_true rfl⟩ rfl rfl (Nat.le_of_ble_eq_true rfl) rfl (mt_Office_needArgument e_t6) ?_
    refine aw_iload_n d_Office_off_9 rfl rfl ?_
    refine aw_iconst (v := 0) d_Office_off_10 (by decide) ?_
    refine aw_sipush (v := 20160) d_Office_off_11 (by decide) ?_
    obtain ⟨t14, e_t14, h⟩ := q_bind h
    refine aw_cS (v := (some (.int t14))) (As := [.int a2, .int (0 : Int32), .int (20160 : Int32)]) (rest := []) (st' := [.int t14]) d_Office_off_14 kS_Office_50 ⟨Nat.le_of_ble_eq_true rfl, Nat.le_of_ble_eq_true rfl, Nat.le_of_ble_eq_true rfl, Nat.le_of_ble_eq_true rfl⟩ rfl rfl (Nat.le_of_ble_eq_true rfl) rfl (mt_Office_isWithin e_t14) ?_
    obtain ⟨⟨t17, M17⟩, e_t17, h⟩ := q_bind h
    cases t17 with
    | inr kx =>
      cases h
      exact aw_cSx (As := [.int t14]) (rest := []) d_Office_off_17 kS_Office_54 ⟨Nat.le_of_ble_eq_true rfl, Nat.le_of_ble_eq_true rfl, Nat.le_of_ble_eq_true rfl, Nat.le_of_ble_eq_true rfl⟩ rfl rfl (Nat.le_of_ble_eq_true rfl) (mt_Office_needArgument e_t17) rfl ⟨rfl, rfl⟩
    | inl vx =>
      dsimp only [q_try] at h
      refine aw_cS (v := none) (As := [.int t14]) (rest := []) (st' := []) d_Office_off_17 kS_Office_54 ⟨Nat.le_of_ble_eq_true rfl, Nat.le_of_ble_eq_true rfl, Nat.le_of_ble_eq_true rfl, Nat.le_of_ble_eq_true rfl⟩ rfl rfl (Nat.le_of_ble_eq_true rfl) rfl (mt_Office_needArgument e_t17) ?_
      refine aw_iload_n d_Office_off_20 rfl rfl ?_
      refine aw_iconst (v := 0) d_Office_off_21 (by decide) ?_
      refine aw_sipush (v := 20160) d_Office_off_22 (by decide) ?_
      obtain ⟨t25, e_t25, h⟩ := q_bind h
      refine aw_cS (v := (some (.int t25))) (As := [.int a3, .int (0 : Int32), .int (20160 : Int32)]) (rest := []) (st' := [.int t25]) d_Office_off_25 kS_Office_50 ⟨Nat.le_of_ble_eq_true rfl, Nat.le_of_ble_eq_true rfl, Nat.le_of_ble_eq_true rfl, Nat.le_of_ble_eq_true rfl⟩ rfl rfl (Nat.le_of_ble_eq_true rfl) rfl (mt_Office_isWithin e_t25) ?_
      obtain ⟨⟨t28, M28⟩, e_t28, h⟩ := q_bind h
      cases t28 with
      | inr kx =>
        cases h
        exact aw_cSx (As := [.int t25]) (rest := []) d_Office_off_28 kS_Office_54 ⟨Nat.le_of_ble_eq_true rfl, Nat.le_of_ble_eq_true rfl, Nat.le_of_ble_eq_true rfl, Nat.le_of_ble_eq_true rfl⟩ rfl rfl (Nat.le_of_ble_eq_true rfl) (mt_Office_needArgument e_t28) rfl ⟨rfl, rfl⟩
      | inl vx =>
        dsimp only [q_try] at h
        refine aw_cS (v := none) (As := [.int t25]) (rest := []) (st' := []) d_Office_off_28 kS_Office_54 ⟨Nat.le_of_ble_eq_true rfl, Nat.le_of_ble_eq_true rfl, Nat.le_of_ble_eq_true rfl, Nat.le_of_ble_eq_true rfl⟩ rfl rfl (Nat.le_of_ble_eq_true rfl) rfl (mt_Office_needArgument e_t28) ?_
        refine aw_aload_n d_Office_off_31 rfl rfl ?_
        obtain ⟨t32, e_t32, h⟩ := q_bind h
        refine aw_gtr d_Office_off_32 fl_Office_10 (Or.inl ⟨_, rfl⟩) e_t32 ?_
        obtain ⟨t35, e_t35, h⟩ := q_bind h
        refine aw_gtr d_Office_off_35 fl_Office_102 (Or.inr ⟨_, rfl⟩) e_t35 ?_
        refine aw_iload_n d_Office_off_38 rfl rfl ?_
        obtain ⟨t39, e_t39, h⟩ := q_bind h
        refine aw_ldr d_Office_off_39 e_t39 ?_
        obtain ⟨t40, e_t40, h⟩ := q_bind h
        refine aw_gti d_Office_off_40 fl_Office_111 (Or.inr rfl) e_t40 ?_
        obtain ⟨⟨t43, M43⟩, e_t43, h⟩ := q_bind h
        cases t43 with
        | inr kx =>
          cases h
          exact aw_cSx (As := [.int t40]) (rest := []) d_Office_off_43 kS_Office_112 ⟨Nat.le_of_ble_eq_true rfl, Nat.le_of_ble_eq_true rfl, Nat.le_of_ble_eq_true rfl, Nat.le_of_ble_eq_true rfl⟩ rfl rfl (Nat.le_of_ble_eq_true rfl) (mt_Office_needElement e_t43) rfl ⟨rfl, rfl⟩
        | inl vx =>
          dsimp only [q_try] at h
          refine aw_cS (v := none) (As := [.int t40]) (rest := []) (st' := []) d_Office_off_43 kS_Office_112 ⟨Nat.le_of_ble_eq_true rfl, Nat.le_of_ble_eq_true rfl, Nat.le_of_ble_eq_true rfl, Nat.le_of_ble_eq_true rfl⟩ rfl rfl (Nat.le_of_ble_eq_true rfl) rfl (mt_Office_needElement e_t43) ?_
          refine aw_aload_n d_Office_off_46 rfl rfl ?_
          obtain ⟨t47, e_t47, h⟩ := q_bind h
          refine aw_gtr d_Office_off_47 fl_Office_10 (Or.inl ⟨_, rfl⟩) e_t47 ?_
          obtain ⟨t50, e_t50, h⟩ := q_bind h
          refine aw_gtr d_Office_off_50 fl_Office_102 (Or.inr ⟨_, rfl⟩) e_t50 ?_
          refine aw_iload_n d_Office_off_53 rfl rfl ?_
          obtain ⟨t54, e_t54, h⟩ := q_bind h
          refine aw_ldr d_Office_off_54 e_t54 ?_
          refine aw_iload_n d_Office_off_55 rfl rfl ?_
          obtain ⟨M56, e_M56, h⟩ := q_bind h
          refine aw_pti d_Office_off_56 fl_Office_115 rfl rfl e_M56 ?_
          refine aw_aload_n d_Office_off_59 rfl rfl ?_
          obtain ⟨t60, e_t60, h⟩ := q_bind h
          refine aw_gtr d_Office_off_60 fl_Office_10 (Or.inl ⟨_, rfl⟩) e_t60 ?_
          obtain ⟨t63, e_t63, h⟩ := q_bind h
          refine aw_gtr d_Office_off_63 fl_Office_102 (Or.inr ⟨_, rfl⟩) e_t63 ?_
          refine aw_iload_n d_Office_off_66 rfl rfl ?_
          obtain ⟨t67, e_t67, h⟩ := q_bind h
          refine aw_ldr d_Office_off_67 e_t67 ?_
          refine aw_iload_n d_Office_off_68 rfl rfl ?_
          obtain ⟨M69, e_M69, h⟩ := q_bind h
          refine aw_pti d_Office_off_69 fl_Office_119 rfl rfl e_M69 ?_
          refine aw_aload_n d_Office_off_72 rfl rfl ?_
          obtain ⟨o73, e_o73, h⟩ := q_bind h
          obtain ⟨⟨t73, M73⟩, e_t73, h⟩ := q_bind h
          dsimp only at h
          refine aw_cV (v := none) (As := []) (rest := []) (st' := []) d_Office_off_73 kV_Office_68 (q_ob_spec e_o73).1 (q_ob_spec e_o73).2 ⟨Nat.le_of_ble_eq_true rfl, Nat.le_of_ble_eq_true rfl, Nat.le_of_ble_eq_true rfl, Nat.le_of_ble_eq_true rfl⟩ rfl rfl (Nat.le_of_ble_eq_true rfl) rfl (mt_Office_forgetPairings e_t73) ?_
          cases h
          exact aw_vreturn d_Office_off_76 rfl (Nat.le_of_ble_eq_true rfl) (Nat.le_of_ble_eq_true rfl) ⟨rfl, rfl⟩
def y_Office_score : MethodName := ⟨"CrewOffice", "score", "(I)I"⟩
def u_Office_score : am_U := ("CrewOffice", "score", prog_1_method_21_code, 2, (some .int), [])
def R_Office_score : Room := { frames := 9, cells := 2, slots := 12, locals := 220 }
theorem d_Office_score_0 : decode u_Office_score.2.2.1 0 = .ok (.iload_n 1, 1) := by decide +kernel
theorem d_Office_score_1 : decode u_Office_score.2.2.1 1 = .ok (.iconst 0, 1) := by decide +kernel
theorem d_Office_score_2 : decode u_Office_score.2.2.1 2 = .ok (.iconst 3, 1) := by decide +kernel
theorem d_Office_score_3 : decode u_Office_score.2.2.1 3 = .ok (.invokestatic 50, 3) := by decide +kernel
theorem d_Office_score_6 : decode u_Office_score.2.2.1 6 = .ok (.invokestatic 54, 3) := by decide +kernel
theorem d_Office_score_9 : decode u_Office_score.2.2.1 9 = .ok (.aload_n 0, 1) := by decide +kernel
theorem d_Office_score_10 : decode u_Office_score.2.2.1 10 = .ok (.getfield 10, 3) := by decide +kernel
theorem d_Office_score_13 : decode u_Office_score.2.2.1 13 = .ok (.getfield 102, 3) := by decide +kernel
theorem d_Office_score_16 : decode u_Office_score.2.2.1 16 = .ok (.iload_n 1, 1) := by decide +kernel
theorem d_Office_score_17 : decode u_Office_score.2.2.1 17 = .ok (.aaload, 1) := by decide +kernel
theorem d_Office_score_18 : decode u_Office_score.2.2.1 18 = .ok (.getfield 111, 3) := by decide +kernel
theorem d_Office_score_21 : decode u_Office_score.2.2.1 21 = .ok (.invokestatic 112, 3) := by decide +kernel
theorem d_Office_score_24 : decode u_Office_score.2.2.1 24 = .ok (.aload_n 0, 1) := by decide +kernel
theorem d_Office_score_25 : decode u_Office_score.2.2.1 25 = .ok (.getfield 46, 3) := by decide +kernel
theorem d_Office_score_28 : decode u_Office_score.2.2.1 28 = .ok (.aload_n 0, 1) := by decide +kernel
theorem d_Office_score_29 : decode u_Office_score.2.2.1 29 = .ok (.getfield 10, 3) := by decide +kernel
theorem d_Office_score_32 : decode u_Office_score.2.2.1 32 = .ok (.getfield 102, 3) := by decide +kernel
theorem d_Office_score_35 : decode u_Office_score.2.2.1 35 = .ok (.iload_n 1, 1) := by decide +kernel
theorem d_Office_score_36 : decode u_Office_score.2.2.1 36 = .ok (.aaload, 1) := by decide +kernel
theorem d_Office_score_37 : decode u_Office_score.2.2.1 37 = .ok (.aload_n 0, 1) := by decide +kernel
theorem d_Office_score_38 : decode u_Office_score.2.2.1 38 = .ok (.getfield 46, 3) := by decide +kernel
theorem d_Office_score_41 : decode u_Office_score.2.2.1 41 = .ok (.getfield 207, 3) := by decide +kernel
theorem d_Office_score_44 : decode u_Office_score.2.2.1 44 = .ok (.iload_n 1, 1) := by decide +kernel
theorem d_Office_score_45 : decode u_Office_score.2.2.1 45 = .ok (.iaload, 1) := by decide +kernel
theorem d_Office_score_46 : decode u_Office_score.2.2.1 46 = .ok (.invokevirtual 210, 3) := by decide +kernel
theorem d_Office_score_49 : decode u_Office_score.2.2.1 49 = .ok (.ireturn, 1) := by decide +kernel
theorem w_Office_score : am_code y_Office_score u_Office_score ∈ am_ws := am_mem (List.mem_of_getElem? (i := 971) (by decide +kernel)) rfl
def e_Office_score (M : am_M) (a0 : Nat) (a1 : Int32) : Option ((Int32 ⊕ Nat) × am_M) := (f_Office_isWithin M a1 (0 : Int32) (3 : Int32)).bind (fun t3 => (f_Office_needArgument M t3).bind (fun p6 => q_try p6 (fun _ M6 => (q_gtr M6 a0 9 0).bind (fun t10 => (q_gtr M6 t10 3 2).bind (fun t13 => (q_ldr M6 t13 a1).bind (fun t17 => (q_gti M6 t17 2 0).bind (fun t18 => (f_Office_needElement M6 t18).bind (fun p21 => q_try p21 (fun _ M21 => (q_gtr M21 a0 9 4).bind (fun t25 => (q_gtr M21 a0 9 0).bind (fun t29 => (q_gtr M21 t29 3 2).bind (fun t32 => (q_ldr M21 t32 a1).bind (fun t36 => (q_gtr M21 a0 9 4).bind (fun t38 => (q_gtr M21 t38 8 3).bind (fun t41 => (q_ldi M21 t41 a1).bind (fun t45 => (q_ob M21 t25 8).bind (fun o46 => (f_Sharing_valueOf M21 t25 t36 t45).bind (fun t46 => some (.inl t46, M21)))))))))))))))))))
def f_Office_score (M : am_M) (a0 : Nat) (a1 : Int32) : Option ((Int32 ⊕ Nat) × am_M) := e_Office_score M a0 a1
theorem fl_Office_207 : am_fl "CrewOffice" 207 8 3 := ⟨by decide, by decide, List.mem_of_getElem? (i := 404) (by decide +kernel)⟩
theorem kV_Office_210 : am_kV "CrewOffice" 210 8 y_Sharing_valueOf u_Sharing_valueOf 2 := ⟨List.mem_of_getElem? (i := 972) (by decide +kernel), ⟨List.mem_of_getElem? (i := 931) (by decide +kernel), List.mem_of_getElem? (i := 932) (by decide +kernel)⟩, List.mem_of_getElem? (i := 64) (by decide +kernel), w_Sharing_valueOf, ⟨⟨by decide +kernel, by decide +kernel⟩, by decide +kernel⟩⟩
set_option maxHeartbeats 4000000 in
theorem mt_Office_score {M : am_M} {a0 : Nat} {a1 : Int32} {res : Int32 ⊕ Nat} {M' : am_M} (h : f_Office_score M a0 a1 = some (res, M')) : AMet y_Office_score u_Office_score R_Office_score [.ref a0, .int a1] M (fun r M2 => r = am_rI res ∧ M2 = M') := by
  refine am_met (by decide +kernel) w_Office_score rfl rfl (Nat.le_of_ble_eq_true rfl) ?_
  show AW u_Office_score R_Office_score 0 0 0 [(0, .ref a0), (1, .int a1)] [] M (fun r M2 => r = am_rI res ∧ M2 = M')
  unfold f_Office_score at h
  unfold e_Office_score at h
  refine aw_iload_n d_Office_score_0 rfl rfl ?_
  refine aw_iconst (v := 0) d_Office_score_1 (by decide) ?_
  refine aw_iconst (v := 3) d_Office_score_2 (by decide) ?_
  obtain ⟨t3, e_t3, h⟩ := q_bind h
  refine aw_cS (v := (some (.int t3))) (As := [.int a1, .int (0 : Int32), .int (3 : Int32)]) (rest := []) (st' := [.int t3]) d_Office_score_3 kS_Office_50 ⟨Nat.le_of_ble_eq_true rfl, Nat.le_of_ble_eq_true rfl, Nat.le_of_ble_eq_true rfl, Nat.le_of_ble_eq_true rfl⟩ rfl rfl (Nat.le_of_ble_eq_true rfl) rfl (mt_Office_isWithin e_t3) ?_
  obtain ⟨⟨t6, M6⟩, e_t6, h⟩ := q_bind h
  cases t6 with
  | inr kx =>
    cases h
    exact aw_cSx (As := [.int t3]) (rest := []) d_Office_score_6 kS_Office_54 ⟨Nat.le_of_ble_eq_true rfl, Nat.le_of_ble_eq_true rfl, Nat.le_of_ble_eq_true rfl, Nat.le_of_ble_eq_true rfl⟩ rfl rfl (Nat.le_of_ble_eq_true rfl) (mt_Office_needArgument e_t6) rfl ⟨rfl, rfl⟩
  | inl vx =>
    dsimp only [q_try] at h
    refine aw_cS (v := none) (As := [.int t3]) (rest := []) (st' := []) d_Office_score_6 kS_Office_54 ⟨Nat.le_of_ble_eq_true rfl, Nat.le_of_ble_eq_true rfl, Nat.le_of_ble_eq_true rfl, Nat.le_of_ble_eq_true rfl⟩ rfl rfl (Nat.le_of_ble_eq_true rfl) rfl (mt_Office_needArgument e_t6) ?_
    refine aw_aload_n d_Office_score_9 rfl rfl ?_
    obtain ⟨t10, e_t10, h⟩ := q_bind h
    refine aw_gtr d_Office_score_10 fl_Office_10 (Or.inl ⟨_, rfl⟩) e_t10 ?_
    obtain ⟨t13, e_t13, h⟩ := q_bind h
    refine aw_gtr d_Office_score_13 fl_Office_102 (Or.inr ⟨_, rfl⟩) e_t13 ?_
    refine aw_iload_n d_Office_score_16 rfl rfl ?_
    obtain ⟨t17, e_t17, h⟩ := q_bind h
    refine aw_ldr d_Office_score_17 e_t17 ?_
    obtain ⟨t18, e_t18, h⟩ := q_bind h
    refine aw_gti d_Office_score_18 fl_Office_111 (Or.inr rfl) e_t18 ?_
    obtain ⟨⟨t21, M21⟩, e_t21, h⟩ := q_bind h
    cases t21 with
    | inr kx =>
      cases h
      exact aw_cSx (As := [.int t18]) (rest := []) d_Office_score_21 kS_Office_112 ⟨Nat.le_of_ble_eq_true rfl, Nat.le_of_ble_eq_true rfl, Nat.le_of_ble_eq_true rfl, Nat.le_of_ble_eq_true rfl⟩ rfl rfl (Nat.le_of_ble_eq_true rfl) (mt_Office_needElement e_t21) rfl ⟨rfl, rfl⟩
    | inl vx =>
      dsimp only [q_try] at h
      refine aw_cS (v := none) (As := [.int t18]) (rest := []) (st' := []) d_Office_score_21 kS_Office_112 ⟨Nat.le_of_ble_eq_true rfl, Nat.le_of_ble_eq_true rfl, Nat.le_of_ble_eq_true rfl, Nat.le_of_ble_eq_true rfl⟩ rfl rfl (Nat.le_of_ble_eq_true rfl) rfl (mt_Office_needElement e_t21) ?_
      refine aw_aload_n d_Office_score_24 rfl rfl ?_
      obtain ⟨t25, e_t25, h⟩ := q_bind h
      refine aw_gtr d_Office_score_25 fl_Office_46 (Or.inl ⟨_, rfl⟩) e_t25 ?_
      refine aw_aload_n d_Office_score_28 rfl rfl ?_
      obtain ⟨t29, e_t29, h⟩ := q_bind h
      refine aw_gtr d_Office_score_29 fl_Office_10 (Or.inl ⟨_, rfl⟩) e_t29 ?_
      obtain ⟨t32, e_t32, h⟩ := q_bind h
      refine aw_gtr d_Office_score_32 fl_Office_102 (Or.inr ⟨_, rfl⟩) e_t32 ?_
      refine aw_iload_n d_Office_score_35 rfl rfl ?_
      obtain ⟨t36, e_t36, h⟩ := q_bind h
      refine aw_ldr d_Office_score_36 e_t36 ?_
      refine aw_aload_n d_Office_score_37 rfl rfl ?_
      obtain ⟨t38, e_t38, h⟩ := q_bind h
      refine aw_gtr d_Office_score_38 fl_Office_46 (Or.inl ⟨_, rfl⟩) e_t38 ?_
      obtain ⟨t41, e_t41, h⟩ := q_bind h
      refine aw_gtr d_Office_score_41 fl_Office_207 (Or.inr ⟨_, rfl⟩) e_t41 ?_
      refine aw_iload_n d_Office_score_44 rfl rfl ?_
      obtain ⟨t45, e_t45, h⟩ := q_bind h
      refine aw_ldi d_Office_score_45 e_t45 ?_
      obtain ⟨o46, e_o46, h⟩ := q_bind h
      obtain ⟨t46, e_t46, h⟩ := q_bind h
      refine aw_cV (v := (some (.int t46))) (As := [.ref t36, .int t45]) (rest := []) (st' := [.int t46]) d_Office_score_46 kV_Office_210 (q_ob_spec e_o46).1 (q_ob_spec e_o46).2 ⟨Nat.le_of_ble_eq_true rfl, Nat.le_of_ble_eq_true rfl, Nat.le_of_ble_eq_true rfl, Nat.le_of_ble_eq_true rfl⟩ rfl rfl (Nat.le_of_ble_eq_true rfl) rfl (mt_Sharing_valueOf e_t46) ?_
      cases h
      exact aw_ireturn d_Office_score_49 rfl (Nat.le_of_ble_eq_true rfl) (Nat.le_of_ble_eq_true rfl) ⟨rfl, rfl⟩
def y_Sharing_bestSet : MethodName := ⟨"CrewOffice$Sharing", "bestSet", "(II)I"⟩
def u_Sharing_bestSet : am_U := ("CrewOffice$Sharing", "bestSet", prog_8_method_12_code, 8, (some .int), [])
def R_Sharing_bestSet : Room := { frames := 23, cells := 0, slots := 0, locals := 871 }
theorem d_Sharing_bestSet_0 : decode u_Sharing_bestSet.2.2.1 0 = .ok (.iconst (-1), 1) := by decide +kernel
theorem d_Sharing_bestSet_1 : decode u_Sharing_bestSet.2.2.1 1 = .ok (.istore_n 3, 1) := by decide +kernel
theorem d_Sharing_bestSet_2 : decode u_Sharing_bestSet.2.2.1 2 = .ok (.iconst 0, 1) := by decide +kernel
theorem d_Sharing_bestSet_3 : decode u_Sharing_bestSet.2.2.1 3 = .ok (.istore 4, 2) := by decide +kernel
theorem d_Sharing_bestSet_5 : decode u_Sharing_bestSet.2.2.1 5 = .ok (.iload_n 2, 1) := by decide +kernel
theorem d_Sharing_bestSet_6 : decode u_Sharing_bestSet.2.2.1 6 = .ok (.aload_n 0, 1) := by decide +kernel
theorem d_Sharing_bestSet_7 : decode u_Sharing_bestSet.2.2.1 7 = .ok (.getfield 18, 3) := by decide +kernel
theorem d_Sharing_bestSet_10 : decode u_Sharing_bestSet.2.2.1 10 = .ok (.iload_n 1, 1) := by decide +kernel
theorem d_Sharing_bestSet_11 : decode u_Sharing_bestSet.2.2.1 11 = .ok (.iaload, 1) := by decide +kernel
theorem d_Sharing_bestSet_12 : decode u_Sharing_bestSet.2.2.1 12 = .ok (.iand, 1) := by decide +kernel
theorem d_Sharing_bestSet_13 : decode u_Sharing_bestSet.2.2.1 13 = .ok (.istore 5, 2) := by decide +kernel
theorem d_Sharing_bestSet_15 : decode u_Sharing_bestSet.2.2.1 15 = .ok (.iload 5, 2) := by decide +kernel
theorem d_Sharing_bestSet_17 : decode u_Sharing_bestSet.2.2.1 17 = .ok (.istore 6, 2) := by decide +kernel
theorem d_Sharing_bestSet_19 : decode u_Sharing_bestSet.2.2.1 19 = .ok (.iload 6, 2) := by decide +kernel
theorem d_Sharing_bestSet_21 : decode u_Sharing_bestSet.2.2.1 21 = .ok (.ifCond .lt 87, 3) := by decide +kernel
theorem d_Sharing_bestSet_24 : decode u_Sharing_bestSet.2.2.1 24 = .ok (.iload 6, 2) := by decide +kernel
theorem d_Sharing_bestSet_26 : decode u_Sharing_bestSet.2.2.1 26 = .ok (.iload 5, 2) := by decide +kernel
theorem d_Sharing_bestSet_28 : decode u_Sharing_bestSet.2.2.1 28 = .ok (.iconst (-1), 1) := by decide +kernel
theorem d_Sharing_bestSet_29 : decode u_Sharing_bestSet.2.2.1 29 = .ok (.ixor, 1) := by decide +kernel
theorem d_Sharing_bestSet_30 : decode u_Sharing_bestSet.2.2.1 30 = .ok (.iand, 1) := by decide +kernel
theorem d_Sharing_bestSet_31 : decode u_Sharing_bestSet.2.2.1 31 = .ok (.ifCond .ne 71, 3) := by decide +kernel
theorem d_Sharing_bestSet_34 : decode u_Sharing_bestSet.2.2.1 34 = .ok (.aload_n 0, 1) := by decide +kernel
theorem d_Sharing_bestSet_35 : decode u_Sharing_bestSet.2.2.1 35 = .ok (.iload_n 1, 1) := by decide +kernel
theorem d_Sharing_bestSet_36 : decode u_Sharing_bestSet.2.2.1 36 = .ok (.iload 6, 2) := by decide +kernel
theorem d_Sharing_bestSet_38 : decode u_Sharing_bestSet.2.2.1 38 = .ok (.invokevirtual 130, 3) := by decide +kernel
theorem d_Sharing_bestSet_41 : decode u_Sharing_bestSet.2.2.1 41 = .ok (.ifCond .eq 61, 3) := by decide +kernel
theorem d_Sharing_bestSet_44 : decode u_Sharing_bestSet.2.2.1 44 = .ok (.aload_n 0, 1) := by decide +kernel
theorem d_Sharing_bestSet_45 : decode u_Sharing_bestSet.2.2.1 45 = .ok (.aload_n 0, 1) := by decide +kernel
theorem d_Sharing_bestSet_46 : decode u_Sharing_bestSet.2.2.1 46 = .ok (.getfield 27, 3) := by decide +kernel
theorem d_Sharing_bestSet_49 : decode u_Sharing_bestSet.2.2.1 49 = .ok (.getfield 88, 3) := by decide +kernel
theorem d_Sharing_bestSet_52 : decode u_Sharing_bestSet.2.2.1 52 = .ok (.aload_n 0, 1) := by decide +kernel
theorem d_Sharing_bestSet_53 : decode u_Sharing_bestSet.2.2.1 53 = .ok (.getfield 15, 3) := by decide +kernel
theorem d_Sharing_bestSet_56 : decode u_Sharing_bestSet.2.2.1 56 = .ok (.iload_n 1, 1) := by decide +kernel
theorem d_Sharing_bestSet_57 : decode u_Sharing_bestSet.2.2.1 57 = .ok (.iaload, 1) := by decide +kernel
theorem d_Sharing_bestSet_58 : decode u_Sharing_bestSet.2.2.1 58 = .ok (.aaload, 1) := by decide +kernel
theorem d_Sharing_bestSet_59 : decode u_Sharing_bestSet.2.2.1 59 = .ok (.iload 6, 2) := by decide +kernel
theorem d_Sharing_bestSet_61 : decode u_Sharing_bestSet.2.2.1 61 = .ok (.invokevirtual 134, 3) := by decide +kernel
theorem d_Sharing_bestSet_64 : decode u_Sharing_bestSet.2.2.1 64 = .ok (.istore 7, 2) := by decide +kernel
theorem d_Sharing_bestSet_66 : decode u_Sharing_bestSet.2.2.1 66 = .ok (.iload_n 3, 1) := by decide +kernel
theorem d_Sharing_bestSet_67 : decode u_Sharing_bestSet.2.2.1 67 = .ok (.iconst (-1), 1) := by decide +kernel
theorem d_Sharing_bestSet_68 : decode u_Sharing_bestSet.2.2.1 68 = .ok (.if_icmp .eq 10, 3) := by decide +kernel
theorem d_Sharing_bestSet_71 : decode u_Sharing_bestSet.2.2.1 71 = .ok (.iload 7, 2) := by decide +kernel
theorem d_Sharing_bestSet_73 : decode u_Sharing_bestSet.2.2.1 73 = .ok (.iload 4, 2) := by decide +kernel
theorem d_Sharing_bestSet_75 : decode u_Sharing_bestSet.2.2.1 75 = .ok (.if_icmp .le 27, 3) := by decide +kernel
theorem d_Sharing_bestSet_78 : decode u_Sharing_bestSet.2.2.1 78 = .ok (.aload_n 0, 1) := by decide +kernel
theorem d_Sharing_bestSet_79 : decode u_Sharing_bestSet.2.2.1 79 = .ok (.iconst 0, 1) := by decide +kernel
theorem d_Sharing_bestSet_80 : decode u_Sharing_bestSet.2.2.1 80 = .ok (.iload_n 2, 1) := by decide +kernel
theorem d_Sharing_bestSet_81 : decode u_Sharing_bestSet.2.2.1 81 = .ok (.iload 6, 2) := by decide +kernel
theorem d_Sharing_bestSet_83 : decode u_Sharing_bestSet.2.2.1 83 = .ok (.iconst (-1), 1) := by decide +kernel
theorem d_Sharing_bestSet_84 : decode u_Sharing_bestSet.2.2.1 84 = .ok (.ixor, 1) := by decide +kernel
theorem d_Sharing_bestSet_85 : decode u_Sharing_bestSet.2.2.1 85 = .ok (.iand, 1) := by decide +kernel
theorem d_Sharing_bestSet_86 : decode u_Sharing_bestSet.2.2.1 86 = .ok (.iload_n 1, 1) := by decide +kernel
theorem d_Sharing_bestSet_87 : decode u_Sharing_bestSet.2.2.1 87 = .ok (.iconst 1, 1) := by decide +kernel
theorem d_Sharing_bestSet_88 : decode u_Sharing_bestSet.2.2.1 88 = .ok (.iadd, 1) := by decide +kernel
theorem d_Sharing_bestSet_89 : decode u_Sharing_bestSet.2.2.1 89 = .ok (.invokevirtual 138, 3) := by decide +kernel
theorem d_Sharing_bestSet_92 : decode u_Sharing_bestSet.2.2.1 92 = .ok (.ifCond .eq 10, 3) := by decide +kernel
theorem d_Sharing_bestSet_95 : decode u_Sharing_bestSet.2.2.1 95 = .ok (.iload 6, 2) := by decide +kernel
theorem d_Sharing_bestSet_97 : decode u_Sharing_bestSet.2.2.1 97 = .ok (.istore_n 3, 1) := by decide +kernel
theorem d_Sharing_bestSet_98 : decode u_Sharing_bestSet.2.2.1 98 = .ok (.iload 7, 2) := by decide +kernel
theorem d_Sharing_bestSet_100 : decode u_Sharing_bestSet.2.2.1 100 = .ok (.istore 4, 2) := by decide +kernel
theorem d_Sharing_bestSet_102 : decode u_Sharing_bestSet.2.2.1 102 = .ok (.iinc 6 (-1), 3) := by decide +kernel
theorem d_Sharing_bestSet_105 : decode u_Sharing_bestSet.2.2.1 105 = .ok (.goto (-86), 3) := by decide +kernel
theorem d_Sharing_bestSet_108 : decode u_Sharing_bestSet.2.2.1 108 = .ok (.iload_n 3, 1) := by decide +kernel
theorem d_Sharing_bestSet_109 : decode u_Sharing_bestSet.2.2.1 109 = .ok (.ireturn, 1) := by decide +kernel
theorem w_Sharing_bestSet : am_code y_Sharing_bestSet u_Sharing_bestSet ∈ am_ws := am_mem (List.mem_of_getElem? (i := 925) (by decide +kernel)) rfl
def a_Sharing_bestSet_0 (rc : Nat → Nat → Int32 → Int32 → Int32 → Int32 → Int32 → Int32 → Int32 → am_M → Option (Int32 × am_M)) (r0 : Nat) (x1 : Int32) (x2 : Int32) (x3 : Int32) (x4 : Int32) (x5 : Int32) (x6 : Int32) (x7 : Int32) (M : am_M) : Option (Int32 × am_M) := if x6 < 0 then (some (x3, M)) else (if (x6 &&& (x5 ^^^ (-1 : Int32))) = 0 then ((q_ob M r0 8).bind (fun o38 => (f_Sharing_fits M r0 x1 x6).bind (fun t38 => if t38 = 0 then (rc 2 r0 x1 x2 x3 x4 x5 x6 0 M) else ((q_gtr M r0 8 0).bind (fun t46 => (q_gtr M t46 3 2).bind (fun t49 => (q_gtr M r0 8 4).bind (fun t53 => (q_ldi M t53 x1).bind (fun t57 => (q_ldr M t49 t57).bind (fun t58 => (q_ob M r0 8).bind (fun o61 => (f_Sharing_valueOf M r0 t58 x6).bind (fun t61 => if x3 = (-1 : Int32) then (rc 1 r0 x1 x2 x3 x4 x5 x6 t61 M) else (if t61 ≤ x4 then (rc 2 r0 x1 x2 x3 x4 x5 x6 0 M) else (rc 1 r0 x1 x2 x3 x4 x5 x6 t61 M))))))))))))) else (rc 2 r0 x1 x2 x3 x4 x5 x6 0 M))
def a_Sharing_bestSet_1 (rc : Nat → Nat → Int32 → Int32 → Int32 → Int32 → Int32 → Int32 → Int32 → am_M → Option (Int32 × am_M)) (r0 : Nat) (x1 : Int32) (x2 : Int32) (x3 : Int32) (x4 : Int32) (x5 : Int32) (x6 : Int32) (x7 : Int32) (M : am_M) : Option (Int32 × am_M) := (q_ob M r0 8).bind (fun o89 => (f_Sharing_canGiveRest 20 M r0 (0 : Int32) (x2 &&& (x6 ^^^ (-1 : Int32))) (x1 + (1 : Int32))).bind (fun p89 => if p89.1 = 0 then (rc 2 r0 x1 x2 x3 x4 x5 x6 0 p89.2) else (rc 2 r0 x1 x2 x6 x7 x5 x6 0 p89.2)))
def a_Sharing_bestSet_2 (rc : Nat → Nat → Int32 → Int32 → Int32 → Int32 → Int32 → Int32 → Int32 → am_M → Option (Int32 × am_M)) (r0 : Nat) (x1 : Int32) (x2 : Int32) (x3 : Int32) (x4 : Int32) (x5 : Int32) (x6 : Int32) (x7 : Int32) (M : am_M) : Option (Int32 × am_M) := rc 0 r0 x1 x2 x3 x4 x5 (x6 + (-1 : Int32)) 0 M
def g_Sharing_bestSet : Nat → Nat → Nat → Int32 → Int32 → Int32 → Int32 → Int32 → Int32 → Int32 → am_M → Option (Int32 × am_M)
  | 0, _, _, _, _, _, _, _, _, _, _ => none
  | F + 1, 0, r0, x1, x2, x3, x4, x5, x6, x7, M => a_Sharing_bestSet_0 (g_Sharing_bestSet F) r0 x1 x2 x3 x4 x5 x6 x7 M
  | F + 1, 1, r0, x1, x2, x3, x4, x5, x6, x7, M => a_Sharing_bestSet_1 (g_Sharing_bestSet F) r0 x1 x2 x3 x4 x5 x6 x7 M
  | F + 1, 2, r0, x1, x2, x3, x4, x5, x6, x7, M => a_Sharing_bestSet_2 (g_Sharing_bestSet F) r0 x1 x2 x3 x4 x5 x6 x7 M
  | _ + 1, _ + 3, _, _, _, _, _, _, _, _, _ => none
def e_Sharing_bestSet (rc : Nat → Nat → Int32 → Int32 → Int32 → Int32 → Int32 → Int32 → Int32 → am_M → Option (Int32 × am_M)) (M : am_M) (a0 : Nat) (a1 : Int32) (a2 : Int32) : Option (Int32 × am_M) := (q_gtr M a0 8 6).bind (fun t7 => (q_ldi M t7 a1).bind (fun t11 => rc 0 a0 a1 a2 (-1 : Int32) (0 : Int32) (a2 &&& t11) (a2 &&& t11) 0 M))
def f_Sharing_bestSet (M : am_M) (a0 : Nat) (a1 : Int32) (a2 : Int32) : Option (Int32 × am_M) := e_Sharing_bestSet (g_Sharing_bestSet 1000000000) M a0 a1 a2
theorem kV_Sharing_134 : am_kV "CrewOffice$Sharing" 134 8 y_Sharing_valueOf u_Sharing_valueOf 2 := ⟨List.mem_of_getElem? (i := 930) (by decide +kernel), ⟨List.mem_of_getElem? (i := 931) (by decide +kernel), List.mem_of_getElem? (i := 932) (by decide +kernel)⟩, List.mem_of_getElem? (i := 64) (by decide +kernel), w_Sharing_valueOf, ⟨⟨by decide +kernel, by decide +kernel⟩, by decide +kernel⟩⟩
set_option maxHeartbeats 4000000 in
theorem s_Sharing_bestSet_0 {rc : Nat → Nat → Int32 → Int32 → Int32 → Int32 → Int32 → Int32 → Int32 → am_M → Option (Int32 × am_M)} {res : Int32} {M' : am_M} (ih_0 : ∀ (r0 : Nat) (x1 : Int32) (x2 : Int32) (x3 : Int32) (x4 : Int32) (x5 : Int32) (x6 : Int32) (x7 : Int32) (M : am_M), rc 0 r0 x1 x2 x3 x4 x5 x6 x7 M = some (res, M') → AW u_Sharing_bestSet R_Sharing_bestSet 0 0 19 [(0, .ref r0), (1, .int x1), (2, .int x2), (3, .int x3), (4, .int x4), (5, .int x5), (6, .int x6)] [] M (fun r M2 => r = .inl (some (.int res)) ∧ M2 = M')) (ih_1 : ∀ (r0 : Nat) (x1 : Int32) (x2 : Int32) (x3 : Int32) (x4 : Int32) (x5 : Int32) (x6 : Int32) (x7 : Int32) (M : am_M), rc 1 r0 x1 x2 x3 x4 x5 x6 x7 M = some (res, M') → AW u_Sharing_bestSet R_Sharing_bestSet 0 0 78 [(0, .ref r0), (1, .int x1), (2, .int x2), (3, .int x3), (4, .int x4), (5, .int x5), (6, .int x6), (7, .int x7)] [] M (fun r M2 => r = .inl (some (.int res)) ∧ M2 = M')) (ih_2 : ∀ (r0 : Nat) (x1 : Int32) (x2 : Int32) (x3 : Int32) (x4 : Int32) (x5 : Int32) (x6 : Int32) (x7 : Int32) (M : am_M), rc 2 r0 x1 x2 x3 x4 x5 x6 x7 M = some (res, M') → AW u_Sharing_bestSet R_Sharing_bestSet 0 0 102 [(0, .ref r0), (1, .int x1), (2, .int x2), (3, .int x3), (4, .int x4), (5, .int x5), (6, .int x6)] [] M (fun r M2 => r = .inl (some (.int res)) ∧ M2 = M')) : ∀ (r0 : Nat) (x1 : Int32) (x2 : Int32) (x3 : Int32) (x4 : Int32) (x5 : Int32) (x6 : Int32) (x7 : Int32) (M : am_M), a_Sharing_bestSet_0 rc r0 x1 x2 x3 x4 x5 x6 x7 M = some (res, M') → AW u_Sharing_bestSet R_Sharing_bestSet 0 0 19 [(0, .ref r0), (1, .int x1), (2, .int x2), (3, .int x3), (4, .int x4), (5, .int x5), (6, .int x6)] [] M (fun r M2 => r = .inl (some (.int res)) ∧ M2 = M') := by
  intro r0 x1 x2 x3 x4 x5 x6 x7 M h
  unfold a_Sharing_bestSet_0 at h
  refine aw_iload d_Sharing_bestSet_19 rfl ?_
  refine aw_if_lt (tgt := 108) d_Sharing_bestSet_21 (by decide) (fun hc => ?_) (fun hc => ?_)
  · rw [if_pos hc] at h
    refine aw_iload_n d_Sharing_bestSet_108 rfl rfl ?_
    cases h
    exact aw_ireturn d_Sharing_bestSet_109 rfl (Nat.le_of_ble_eq_true rfl) (Nat.le_of_ble_eq_true rfl) ⟨rfl, rfl⟩
  · rw [if_neg hc] at h
    refine aw_iload d_Sharing_bestSet_24 rfl ?_
    refine aw_iload d_Sharing_bestSet_26 rfl ?_
    refine aw_iconst (v := -1) d_Sharing_bestSet_28 (by decide) ?_
    refine aw_ixor d_Sharing_bestSet_29 ?_
    refine aw_iand d_Sharing_bestSet_30 ?_
    refine aw_if_ne (tgt := 102) d_Sharing_bestSet_31 (by decide) (fun hc => ?_) (fun hc => ?_)
    · rw [if_neg hc] at h
      exact aw_pick [0, 1, 2, 3, 4, 5, 6] rfl (ih_2 _ _ _ _ _ _ _ _ _ h)
    · rw [if_pos hc] at h
      refine aw_aload_n d_Sharing_bestSet_34 rfl rfl ?_
      refine aw_iload_n d_Sharing_bestSet_35 rfl rfl ?_
      refine aw_iload d_Sharing_bestSet_36 rfl ?_
      obtain ⟨o38, e_o38, h⟩ := q_bind h
      obtain ⟨t38, e_t38, h⟩ := q_bind h
      refine aw_cV (v := (some (.int t38))) (As := [.int x1, .int x6]) (rest := []) (st' := [.int t38]) d_Sharing_bestSet_38 kV_Sharing_130 (q_ob_spec e_o38).1 (q_ob_spec e_o38).2 ⟨Nat.le_of_ble_eq_true rfl, Nat.le_of_ble_eq_true rfl, Nat.le_of_ble_eq_true rfl, Nat.le_of_ble_eq_true rfl⟩ rfl rfl (Nat.le_of_ble_eq_true rfl) rfl (mt_Sharing_fits e_t38) ?_
      refine aw_if_eq (tgt := 102) d_Sharing_bestSet_41 (by decide) (fun hc => ?_) (fun hc => ?_)
      · rw [if_pos hc] at h
        exact aw_pick [0, 1, 2, 3, 4, 5, 6] rfl (ih_2 _ _ _ _ _ _ _ _ _ h)
      · rw [if_neg hc] at h
        refine aw_aload_n d_Sharing_bestSet_44 rfl rfl ?_
        refine aw_aload_n d_Sharing_bestSet_45 rfl rfl ?_
        obtain ⟨t46, e_t46, h⟩ := q_bind h
        refine aw_gtr d_Sharing_bestSet_46 fl_Sharing_27 (Or.inl ⟨_, rfl⟩) e_t46 ?_
        obtain ⟨t49, e_t49, h⟩ := q_bind h
        refine aw_gtr d_Sharing_bestSet_49 fl_Sharing_88 (Or.inr ⟨_, rfl⟩) e_t49 ?_
        refine aw_aload_n d_Sharing_bestSet_52 rfl rfl ?_
        obtain ⟨t53, e_t53, h⟩ := q_bind h
        refine aw_gtr d_Sharing_bestSet_53 fl_Sharing_15 (Or.inr ⟨_, rfl⟩) e_t53 ?_
        refine aw_iload_n d_Sharing_bestSet_56 rfl rfl ?_
        obtain ⟨t57, e_t57, h⟩ := q_bind h
        refine aw_ldi d_Sharing_bestSet_57 e_t57 ?_
        obtain ⟨t58, e_t58, h⟩ := q_bind h
        refine aw_ldr d_Sharing_bestSet_58 e_t58 ?_
        refine aw_iload d_Sharing_bestSet_59 rfl ?_
        obtain ⟨o61, e_o61, h⟩ := q_bind h
        obtain ⟨t61, e_t61, h⟩ := q_bind h
        refine aw_cV (v := (some (.int t61))) (As := [.ref t58, .int x6]) (rest := []) (st' := [.int t61]) d_Sharing_bestSet_61 kV_Sharing_134 (q_ob_spec e_o61).1 (q_ob_spec e_o61).2 ⟨Nat.le_of_ble_eq_true rfl, Nat.le_of_ble_eq_true rfl, Nat.le_of_ble_eq_true rfl, Nat.le_of_ble_eq_true rfl⟩ rfl rfl (Nat.le_of_ble_eq_true rfl) rfl (mt_Sharing_valueOf e_t61) ?_
        refine aw_istore (ls' := [(7, .int _), (0, .ref _), (1, .int _), (2, .int _), (3, .int _), (4, .int _), (5, .int _), (6, .int _)]) d_Sharing_bestSet_64 (Nat.le_of_ble_eq_true rfl) rfl ?_
        refine aw_iload_n d_Sharing_bestSet_66 rfl rfl ?_
        refine aw_iconst (v := -1) d_Sharing_bestSet_67 (by decide) ?_
        refine aw_icmp_eq (tgt := 78) d_Sharing_bestSet_68 (by decide) (fun hc => ?_) (fun hc => ?_)
        · rw [if_pos hc] at h
          exact aw_pick [1, 2, 3, 4, 5, 6, 7, 0] rfl (ih_1 _ _ _ _ _ _ _ _ _ h)
        · rw [if_neg hc] at h
          refine aw_iload d_Sharing_bestSet_71 rfl ?_
          refine aw_iload d_Sharing_bestSet_73 rfl ?_
          refine aw_icmp_le (tgt := 102) d_Sharing_bestSet_75 (by decide) (fun hc => ?_) (fun hc => ?_)
          · rw [if_pos hc] at h
            exact aw_pick [1, 2, 3, 4, 5, 6, 7] rfl (ih_2 _ _ _ _ _ _ _ _ _ h)
          · rw [if_neg hc] at h
            exact aw_pick [1, 2, 3, 4, 5, 6, 7, 0] rfl (ih_1 _ _ _ _ _ _ _ _ _ h)
set_option maxHeartbeats 4000000 in
theorem s_Sharing_bestSet_1 {rc : Nat → Nat → Int32 → Int32 → Int32 → Int32 → Int32 → Int32 → Int32 → am_M → Option (Int32 × am_M)} {res : Int32} {M' : am_M} (ih_0 : ∀ (r0 : Nat) (x1 : Int32) (x2 : Int32) (x3 : Int32) (x4 : Int32) (x5 : Int32) (x6 : Int32) (x7 : Int32) (M : am_M), rc 0 r0 x1 x2 x3 x4 x5 x6 x7 M = some (res, M') → AW u_Sharing_bestSet R_Sharing_bestSet 0 0 19 [(0, .ref r0), (1, .int x1), (2, .int x2), (3, .int x3), (4, .int x4), (5, .int x5), (6, .int x6)] [] M (fun r M2 => r = .inl (some (.int res)) ∧ M2 = M')) (ih_1 : ∀ (r0 : Nat) (x1 : Int32) (x2 : Int32) (x3 : Int32) (x4 : Int32) (x5 : Int32) (x6 : Int32) (x7 : Int32) (M : am_M), rc 1 r0 x1 x2 x3 x4 x5 x6 x7 M = some (res, M') → AW u_Sharing_bestSet R_Sharing_bestSet 0 0 78 [(0, .ref r0), (1, .int x1), (2, .int x2), (3, .int x3), (4, .int x4), (5, .int x5), (6, .int x6), (7, .int x7)] [] M (fun r M2 => r = .inl (some (.int res)) ∧ M2 = M')) (ih_2 : ∀ (r0 : Nat) (x1 : Int32) (x2 : Int32) (x3 : Int32) (x4 : Int32) (x5 : Int32) (x6 : Int32) (x7 : Int32) (M : am_M), rc 2 r0 x1 x2 x3 x4 x5 x6 x7 M = some (res, M') → AW u_Sharing_bestSet R_Sharing_bestSet 0 0 102 [(0, .ref r0), (1, .int x1), (2, .int x2), (3, .int x3), (4, .int x4), (5, .int x5), (6, .int x6)] [] M (fun r M2 => r = .inl (some (.int res)) ∧ M2 = M')) : ∀ (r0 : Nat) (x1 : Int32) (x2 : Int32) (x3 : Int32) (x4 : Int32) (x5 : Int32) (x6 : Int32) (x7 : Int32) (M : am_M), a_Sharing_bestSet_1 rc r0 x1 x2 x3 x4 x5 x6 x7 M = some (res, M') → AW u_Sharing_bestSet R_Sharing_bestSet 0 0 78 [(0, .ref r0), (1, .int x1), (2, .int x2), (3, .int x3), (4, .int x4), (5, .int x5), (6, .int x6), (7, .int x7)] [] M (fun r M2 => r = .inl (some (.int res)) ∧ M2 = M') := by
  intro r0 x1 x2 x3 x4 x5 x6 x7 M h
  unfold a_Sharing_bestSet_1 at h
  refine aw_aload_n d_Sharing_bestSet_78 rfl rfl ?_
  refine aw_iconst (v := 0) d_Sharing_bestSet_79 (by decide) ?_
  refine aw_iload_n d_Sharing_bestSet_80 rfl rfl ?_
  refine aw_iload d_Sharing_bestSet_81 rfl ?_
  refine aw_iconst (v := -1) d_Sharing_bestSet_83 (by decide) ?_
  refine aw_ixor d_Sharing_bestSet_84 ?_
  refine aw_iand d_Sharing_bestSet_85 ?_
  refine aw_iload_n d_Sharing_bestSet_86 rfl rfl ?_
  refine aw_iconst (v := 1) d_Sharing_bestSet_87 (by decide) ?_
  refine aw_iadd d_Sharing_bestSet_88 ?_
  obtain ⟨o89, e_o89, h⟩ := q_bind h
  obtain ⟨⟨t89, M89⟩, e_t89, h⟩ := q_bind h
  dsimp only at h
  refine aw_cV (v := (some (.int t89))) (As := [.int (0 : Int32), .int (x2 &&& (x6 ^^^ (-1 : Int32))), .int (x1 + (1 : Int32))]) (rest := []) (st' := [.int t89]) d_Sharing_bestSet_89 kV_Sharing_138 (q_ob_spec e_o89).1 (q_ob_spec e_o89).2 ⟨Nat.le_of_ble_eq_true rfl, Nat.le_of_ble_eq_true rfl, Nat.le_of_ble_eq_true rfl, Nat.le_of_ble_eq_true rfl⟩ rfl rfl (Nat.le_of_ble_eq_true rfl) rfl (mt_Sharing_canGiveRest 20 e_t89) ?_
  refine aw_if_eq (tgt := 102) d_Sharing_bestSet_92 (by decide) (fun hc => ?_) (fun hc => ?_)
  · rw [if_pos hc] at h
    exact aw_pick [0, 1, 2, 3, 4, 5, 6] rfl (ih_2 _ _ _ _ _ _ _ _ _ h)
  · rw [if_neg hc] at h
    refine aw_iload d_Sharing_bestSet_95 rfl ?_
    refine aw_istore_n (ls' := [(3, .int _), (0, .ref _), (1, .int _), (2, .int _), (4, .int _), (5, .int _), (6, .int _), (7, .int _)]) d_Sharing_bestSet_97 rfl (Nat.le_of_ble_eq_true rfl) rfl ?_
    refine aw_iload d_Sharing_bestSet_98 rfl ?_
    refine aw_istore (ls' := [(4, .int _), (3, .int _), (0, .ref _), (1, .int _), (2, .int _), (5, .int _), (6, .int _), (7, .int _)]) d_Sharing_bestSet_100 (Nat.le_of_ble_eq_true rfl) rfl ?_
    exact aw_pick [2, 3, 4, 1, 0, 5, 6] rfl (ih_2 _ _ _ _ _ _ _ _ _ h)
set_option maxHeartbeats 4000000 in
theorem s_Sharing_bestSet_2 {rc : Nat → Nat → Int32 → Int32 → Int32 → Int32 → Int32 → Int32 → Int32 → am_M → Option (Int32 × am_M)} {res : Int32} {M' : am_M} (ih_0 : ∀ (r0 : Nat) (x1 : Int32) (x2 : Int32) (x3 : Int32) (x4 : Int32) (x5 : Int32) (x6 : Int32) (x7 : Int32) (M : am_M), rc 0 r0 x1 x2 x3 x4 x5 x6 x7 M = some (res, M') → AW u_Sharing_bestSet R_Sharing_bestSet 0 0 19 [(0, .ref r0), (1, .int x1), (2, .int x2), (3, .int x3), (4, .int x4), (5, .int x5), (6, .int x6)] [] M (fun r M2 => r = .inl (some (.int res)) ∧ M2 = M')) (ih_1 : ∀ (r0 : Nat) (x1 : Int32) (x2 : Int32) (x3 : Int32) (x4 : Int32) (x5 : Int32) (x6 : Int32) (x7 : Int32) (M : am_M), rc 1 r0 x1 x2 x3 x4 x5 x6 x7 M = some (res, M') → AW u_Sharing_bestSet R_Sharing_bestSet 0 0 78 [(0, .ref r0), (1, .int x1), (2, .int x2), (3, .int x3), (4, .int x4), (5, .int x5), (6, .int x6), (7, .int x7)] [] M (fun r M2 => r = .inl (some (.int res)) ∧ M2 = M')) (ih_2 : ∀ (r0 : Nat) (x1 : Int32) (x2 : Int32) (x3 : Int32) (x4 : Int32) (x5 : Int32) (x6 : Int32) (x7 : Int32) (M : am_M), rc 2 r0 x1 x2 x3 x4 x5 x6 x7 M = some (res, M') → AW u_Sharing_bestSet R_Sharing_bestSet 0 0 102 [(0, .ref r0), (1, .int x1), (2, .int x2), (3, .int x3), (4, .int x4), (5, .int x5), (6, .int x6)] [] M (fun r M2 => r = .inl (some (.int res)) ∧ M2 = M')) : ∀ (r0 : Nat) (x1 : Int32) (x2 : Int32) (x3 : Int32) (x4 : Int32) (x5 : Int32) (x6 : Int32) (x7 : Int32) (M : am_M), a_Sharing_bestSet_2 rc r0 x1 x2 x3 x4 x5 x6 x7 M = some (res, M') → AW u_Sharing_bestSet R_Sharing_bestSet 0 0 102 [(0, .ref r0), (1, .int x1), (2, .int x2), (3, .int x3), (4, .int x4), (5, .int x5), (6, .int x6)] [] M (fun r M2 => r = .inl (some (.int res)) ∧ M2 = M') := by
  intro r0 x1 x2 x3 x4 x5 x6 x7 M h
  unfold a_Sharing_bestSet_2 at h
  refine aw_iinc (v := (x6 + (-1 : Int32))) (ls' := [(6, .int _), (0, .ref _), (1, .int _), (2, .int _), (3, .int _), (4, .int _), (5, .int _)]) d_Sharing_bestSet_102 rfl rfl (Nat.le_of_ble_eq_true rfl) rfl ?_
  refine aw_goto (tgt := 19) d_Sharing_bestSet_105 (by decide) ?_
  exact aw_pick [1, 2, 3, 4, 5, 6, 0] rfl (ih_0 _ _ _ _ _ _ _ _ _ h)
theorem l_Sharing_bestSet {res : Int32} {M' : am_M} : ∀ F : Nat, (∀ (r0 : Nat) (x1 : Int32) (x2 : Int32) (x3 : Int32) (x4 : Int32) (x5 : Int32) (x6 : Int32) (x7 : Int32) (M : am_M), g_Sharing_bestSet F 0 r0 x1 x2 x3 x4 x5 x6 x7 M = some (res, M') → AW u_Sharing_bestSet R_Sharing_bestSet 0 0 19 [(0, .ref r0), (1, .int x1), (2, .int x2), (3, .int x3), (4, .int x4), (5, .int x5), (6, .int x6)] [] M (fun r M2 => r = .inl (some (.int res)) ∧ M2 = M')) ∧ (∀ (r0 : Nat) (x1 : Int32) (x2 : Int32) (x3 : Int32) (x4 : Int32) (x5 : Int32) (x6 : Int32) (x7 : Int32) (M : am_M), g_Sharing_bestSet F 1 r0 x1 x2 x3 x4 x5 x6 x7 M = some (res, M') → AW u_Sharing_bestSet R_Sharing_bestSet 0 0 78 [(0, .ref r0), (1, .int x1), (2, .int x2), (3, .int x3), (4, .int x4), (5, .int x5), (6, .int x6), (7, .int x7)] [] M (fun r M2 => r = .inl (some (.int res)) ∧ M2 = M')) ∧ (∀ (r0 : Nat) (x1 : Int32) (x2 : Int32) (x3 : Int32) (x4 : Int32) (x5 : Int32) (x6 : Int32) (x7 : Int32) (M : am_M), g_Sharing_bestSet F 2 r0 x1 x2 x3 x4 x5 x6 x7 M = some (res, M') → AW u_Sharing_bestSet R_Sharing_bestSet 0 0 102 [(0, .ref r0), (1, .int x1), (2, .int x2), (3, .int x3), (4, .int x4), (5, .int x5), (6, .int x6)] [] M (fun r M2 => r = .inl (some (.int res)) ∧ M2 = M')) := by
  intro F
  induction F with
  | zero => exact ⟨fun _ _ _ _ _ _ _ _ _  h => (by cases h), fun _ _ _ _ _ _ _ _ _  h => (by cases h), fun _ _ _ _ _ _ _ _ _  h => (by cases h)⟩
  | succ F ih =>
    obtain ⟨ih0, ih1, ih2⟩ := ih
    exact ⟨s_Sharing_bestSet_0 ih0 ih1 ih2, s_Sharing_bestSet_1 ih0 ih1 ih2, s_Sharing_bestSet_2 ih0 ih1 ih2⟩
set_option maxHeartbeats 4000000 in
theorem mt_Sharing_bestSet {M : am_M} {a0 : Nat} {a1 : Int32} {a2 : Int32} {res : Int32} {M' : am_M} (h : f_Sharing_bestSet M a0 a1 a2 = some (res, M')) : AMet y_Sharing_bestSet u_Sharing_bestSet R_Sharing_bestSet [.ref a0, .int a1, .int a2] M (fun r M2 => r = .inl (some (.int res)) ∧ M2 = M') := by
  refine am_met (by decide +kernel) w_Sharing_bestSet rfl rfl (Nat.le_of_ble_eq_true rfl) ?_
  show AW u_Sharing_bestSet R_Sharing_bestSet 0 0 0 [(0, .ref a0), (1, .int a1), (2, .int a2)] [] M (fun r M2 => r = .inl (some (.int res)) ∧ M2 = M')
  have ih_0 := (l_Sharing_bestSet (res := res) (M' := M') 1000000000).1
  have ih_1 := (l_Sharing_bestSet (res := res) (M' := M') 1000000000).2.1
  have ih_2 := (l_Sharing_bestSet (res := res) (M' := M') 1000000000).2.2
  unfold f_Sharing_bestSet at h
  unfold e_Sharing_bestSet at h
  generalize g_Sharing_bestSet 1000000000 = rc at h ih_0 ih_1 ih_2
  refine aw_iconst (v := -1) d_Sharing_bestSet_0 (by decide) ?_
  refine aw_istore_n (ls' := [(3, .int _), (0, .ref _), (1, .int _), (2, .int _)]) d_Sharing_bestSet_1 rfl (Nat.le_of_ble_eq_true rfl) rfl ?_
  refine aw_iconst (v := 0) d_Sharing_bestSet_2 (by decide) ?_
  refine aw_istore (ls' := [(4, .int _), (3, .int _), (0, .ref _), (1, .int _), (2, .int _)]) d_Sharing_bestSet_3 (Nat.le_of_ble_eq_true rfl) rfl ?_
  refine aw_iload_n d_Sharing_bestSet_5 rfl rfl ?_
  refine aw_aload_n d_Sharing_bestSet_6 rfl rfl ?_
  obtain ⟨t7, e_t7, h⟩ := q_bind h
  refine aw_gtr d_Sharing_bestSet_7 fl_Sharing_18 (Or.inr ⟨_, rfl⟩) e_t7 ?_
  refine aw_iload_n d_Sharing_bestSet_10 rfl rfl ?_
  obtain ⟨t11, e_t11, h⟩ := q_bind h
  refine aw_ldi d_Sharing_bestSet_11 e_t11 ?_
  refine aw_iand d_Sharing_bestSet_12 ?_
  refine aw_istore (ls' := [(5, .int _), (4, .int _), (3, .int _), (0, .ref _), (1, .int _), (2, .int _)]) d_Sharing_bestSet_13 (Nat.le_of_ble_eq_true rfl) rfl ?_
  refine aw_iload d_Sharing_bestSet_15 rfl ?_
  refine aw_istore (ls' := [(6, .int _), (5, .int _), (4, .int _), (3, .int _), (0, .ref _), (1, .int _), (2, .int _)]) d_Sharing_bestSet_17 (Nat.le_of_ble_eq_true rfl) rfl ?_
  exact aw_pick [4, 5, 6, 3, 2, 1, 0] rfl (ih_0 _ _ _ _ _ _ _ _ _ h)
