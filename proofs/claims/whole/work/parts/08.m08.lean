-- Sharing_findAllowed Sharing_areRivals Sharing_fits Trip_put Trip_canBeMeasured Trip_legAt
def y_Sharing_findAllowed : MethodName := ⟨"CrewOffice$Sharing", "findAllowed", "()V"⟩
def u_Sharing_findAllowed : am_U := ("CrewOffice$Sharing", "findAllowed", prog_8_method_9_code, 5, none, [])
def R_Sharing_findAllowed : Room := { frames := 2, cells := 0, slots := 0, locals := 44 }
theorem d_Sharing_findAllowed_0 : decode u_Sharing_findAllowed.2.2.1 0 = .ok (.iconst 0, 1) := by decide +kernel
theorem d_Sharing_findAllowed_1 : decode u_Sharing_findAllowed.2.2.1 1 = .ok (.istore_n 1, 1) := by decide +kernel
theorem d_Sharing_findAllowed_2 : decode u_Sharing_findAllowed.2.2.1 2 = .ok (.iload_n 1, 1) := by decide +kernel
theorem d_Sharing_findAllowed_3 : decode u_Sharing_findAllowed.2.2.1 3 = .ok (.aload_n 0, 1) := by decide +kernel
theorem d_Sharing_findAllowed_4 : decode u_Sharing_findAllowed.2.2.1 4 = .ok (.getfield 81, 3) := by decide +kernel
theorem d_Sharing_findAllowed_7 : decode u_Sharing_findAllowed.2.2.1 7 = .ok (.if_icmp .ge 101, 3) := by decide +kernel
theorem d_Sharing_findAllowed_10 : decode u_Sharing_findAllowed.2.2.1 10 = .ok (.aload_n 0, 1) := by decide +kernel
theorem d_Sharing_findAllowed_11 : decode u_Sharing_findAllowed.2.2.1 11 = .ok (.getfield 27, 3) := by decide +kernel
theorem d_Sharing_findAllowed_14 : decode u_Sharing_findAllowed.2.2.1 14 = .ok (.getfield 88, 3) := by decide +kernel
theorem d_Sharing_findAllowed_17 : decode u_Sharing_findAllowed.2.2.1 17 = .ok (.aload_n 0, 1) := by decide +kernel
theorem d_Sharing_findAllowed_18 : decode u_Sharing_findAllowed.2.2.1 18 = .ok (.getfield 15, 3) := by decide +kernel
theorem d_Sharing_findAllowed_21 : decode u_Sharing_findAllowed.2.2.1 21 = .ok (.iload_n 1, 1) := by decide +kernel
theorem d_Sharing_findAllowed_22 : decode u_Sharing_findAllowed.2.2.1 22 = .ok (.iaload, 1) := by decide +kernel
theorem d_Sharing_findAllowed_23 : decode u_Sharing_findAllowed.2.2.1 23 = .ok (.aaload, 1) := by decide +kernel
theorem d_Sharing_findAllowed_24 : decode u_Sharing_findAllowed.2.2.1 24 = .ok (.astore_n 2, 1) := by decide +kernel
theorem d_Sharing_findAllowed_25 : decode u_Sharing_findAllowed.2.2.1 25 = .ok (.aload_n 0, 1) := by decide +kernel
theorem d_Sharing_findAllowed_26 : decode u_Sharing_findAllowed.2.2.1 26 = .ok (.getfield 18, 3) := by decide +kernel
theorem d_Sharing_findAllowed_29 : decode u_Sharing_findAllowed.2.2.1 29 = .ok (.iload_n 1, 1) := by decide +kernel
theorem d_Sharing_findAllowed_30 : decode u_Sharing_findAllowed.2.2.1 30 = .ok (.iconst 0, 1) := by decide +kernel
theorem d_Sharing_findAllowed_31 : decode u_Sharing_findAllowed.2.2.1 31 = .ok (.iastore, 1) := by decide +kernel
theorem d_Sharing_findAllowed_32 : decode u_Sharing_findAllowed.2.2.1 32 = .ok (.iconst 0, 1) := by decide +kernel
theorem d_Sharing_findAllowed_33 : decode u_Sharing_findAllowed.2.2.1 33 = .ok (.istore_n 3, 1) := by decide +kernel
theorem d_Sharing_findAllowed_34 : decode u_Sharing_findAllowed.2.2.1 34 = .ok (.iload_n 3, 1) := by decide +kernel
theorem d_Sharing_findAllowed_35 : decode u_Sharing_findAllowed.2.2.1 35 = .ok (.aload_n 0, 1) := by decide +kernel
theorem d_Sharing_findAllowed_36 : decode u_Sharing_findAllowed.2.2.1 36 = .ok (.getfield 35, 3) := by decide +kernel
theorem d_Sharing_findAllowed_39 : decode u_Sharing_findAllowed.2.2.1 39 = .ok (.getfield 77, 3) := by decide +kernel
theorem d_Sharing_findAllowed_42 : decode u_Sharing_findAllowed.2.2.1 42 = .ok (.if_icmp .ge 60, 3) := by decide +kernel
theorem d_Sharing_findAllowed_45 : decode u_Sharing_findAllowed.2.2.1 45 = .ok (.aload_n 0, 1) := by decide +kernel
theorem d_Sharing_findAllowed_46 : decode u_Sharing_findAllowed.2.2.1 46 = .ok (.iload_n 3, 1) := by decide +kernel
theorem d_Sharing_findAllowed_47 : decode u_Sharing_findAllowed.2.2.1 47 = .ok (.invokevirtual 103, 3) := by decide +kernel
theorem d_Sharing_findAllowed_50 : decode u_Sharing_findAllowed.2.2.1 50 = .ok (.astore 4, 2) := by decide +kernel
theorem d_Sharing_findAllowed_52 : decode u_Sharing_findAllowed.2.2.1 52 = .ok (.aload 4, 2) := by decide +kernel
theorem d_Sharing_findAllowed_54 : decode u_Sharing_findAllowed.2.2.1 54 = .ok (.getfield 107, 3) := by decide +kernel
theorem d_Sharing_findAllowed_57 : decode u_Sharing_findAllowed.2.2.1 57 = .ok (.aload_n 2, 1) := by decide +kernel
theorem d_Sharing_findAllowed_58 : decode u_Sharing_findAllowed.2.2.1 58 = .ok (.getfield 112, 3) := by decide +kernel
theorem d_Sharing_findAllowed_61 : decode u_Sharing_findAllowed.2.2.1 61 = .ok (.if_icmp .ne 35, 3) := by decide +kernel
theorem d_Sharing_findAllowed_64 : decode u_Sharing_findAllowed.2.2.1 64 = .ok (.aload_n 2, 1) := by decide +kernel
theorem d_Sharing_findAllowed_65 : decode u_Sharing_findAllowed.2.2.1 65 = .ok (.aload 4, 2) := by decide +kernel
theorem d_Sharing_findAllowed_67 : decode u_Sharing_findAllowed.2.2.1 67 = .ok (.aload_n 0, 1) := by decide +kernel
theorem d_Sharing_findAllowed_68 : decode u_Sharing_findAllowed.2.2.1 68 = .ok (.getfield 27, 3) := by decide +kernel
theorem d_Sharing_findAllowed_71 : decode u_Sharing_findAllowed.2.2.1 71 = .ok (.getfield 113, 3) := by decide +kernel
theorem d_Sharing_findAllowed_74 : decode u_Sharing_findAllowed.2.2.1 74 = .ok (.bipush 10, 2) := by decide +kernel
theorem d_Sharing_findAllowed_76 : decode u_Sharing_findAllowed.2.2.1 76 = .ok (.iaload, 1) := by decide +kernel
theorem d_Sharing_findAllowed_77 : decode u_Sharing_findAllowed.2.2.1 77 = .ok (.invokevirtual 116, 3) := by decide +kernel
theorem d_Sharing_findAllowed_80 : decode u_Sharing_findAllowed.2.2.1 80 = .ok (.ifCond .ne 16, 3) := by decide +kernel
theorem d_Sharing_findAllowed_83 : decode u_Sharing_findAllowed.2.2.1 83 = .ok (.aload_n 0, 1) := by decide +kernel
theorem d_Sharing_findAllowed_84 : decode u_Sharing_findAllowed.2.2.1 84 = .ok (.getfield 18, 3) := by decide +kernel
theorem d_Sharing_findAllowed_87 : decode u_Sharing_findAllowed.2.2.1 87 = .ok (.iload_n 1, 1) := by decide +kernel
theorem d_Sharing_findAllowed_88 : decode u_Sharing_findAllowed.2.2.1 88 = .ok (.dup2, 1) := by decide +kernel
theorem d_Sharing_findAllowed_89 : decode u_Sharing_findAllowed.2.2.1 89 = .ok (.iaload, 1) := by decide +kernel
theorem d_Sharing_findAllowed_90 : decode u_Sharing_findAllowed.2.2.1 90 = .ok (.iload_n 3, 1) := by decide +kernel
theorem d_Sharing_findAllowed_91 : decode u_Sharing_findAllowed.2.2.1 91 = .ok (.invokestatic 56, 3) := by decide +kernel
theorem d_Sharing_findAllowed_94 : decode u_Sharing_findAllowed.2.2.1 94 = .ok (.ior, 1) := by decide +kernel
theorem d_Sharing_findAllowed_95 : decode u_Sharing_findAllowed.2.2.1 95 = .ok (.iastore, 1) := by decide +kernel
theorem d_Sharing_findAllowed_96 : decode u_Sharing_findAllowed.2.2.1 96 = .ok (.iinc 3 1, 3) := by decide +kernel
theorem d_Sharing_findAllowed_99 : decode u_Sharing_findAllowed.2.2.1 99 = .ok (.goto (-65), 3) := by decide +kernel
theorem d_Sharing_findAllowed_102 : decode u_Sharing_findAllowed.2.2.1 102 = .ok (.iinc 1 1, 3) := by decide +kernel
theorem d_Sharing_findAllowed_105 : decode u_Sharing_findAllowed.2.2.1 105 = .ok (.goto (-103), 3) := by decide +kernel
theorem d_Sharing_findAllowed_108 : decode u_Sharing_findAllowed.2.2.1 108 = .ok (.return_, 1) := by decide +kernel
theorem w_Sharing_findAllowed : am_code y_Sharing_findAllowed u_Sharing_findAllowed ∈ am_ws := am_mem (List.mem_of_getElem? (i := 905) (by decide +kernel)) rfl
def a_Sharing_findAllowed_0 (rc : Nat → Nat → Int32 → Nat → Int32 → am_M → Option (Unit × am_M)) (r0 : Nat) (x1 : Int32) (r2 : Nat) (x3 : Int32) (M : am_M) : Option (Unit × am_M) := (q_gti M r0 8 5).bind (fun t4 => if t4 ≤ x1 then (some ((), M)) else ((q_gtr M r0 8 0).bind (fun t11 => (q_gtr M t11 3 2).bind (fun t14 => (q_gtr M r0 8 4).bind (fun t18 => (q_ldi M t18 x1).bind (fun t22 => (q_ldr M t14 t22).bind (fun t23 => (q_gtr M r0 8 6).bind (fun t26 => (q_sti M t26 x1 (0 : Int32)).bind (fun M31 => rc 1 r0 x1 t23 (0 : Int32) M31)))))))))
def a_Sharing_findAllowed_1 (rc : Nat → Nat → Int32 → Nat → Int32 → am_M → Option (Unit × am_M)) (r0 : Nat) (x1 : Int32) (r2 : Nat) (x3 : Int32) (M : am_M) : Option (Unit × am_M) := (q_gtr M r0 8 2).bind (fun t36 => (q_gti M t36 7 3).bind (fun t39 => if t39 ≤ x3 then (rc 0 r0 (x1 + (1 : Int32)) 0 0 M) else ((q_ob M r0 8).bind (fun o47 => (f_Sharing_workAt M r0 x3).bind (fun t47 => (q_gti M t47 4 2).bind (fun t54 => (q_gti M r2 2 1).bind (fun t58 => if t54 = t58 then ((q_gtr M r0 8 0).bind (fun t68 => (q_gtr M t68 3 3).bind (fun t71 => (q_ldi M t71 (10 : Int32)).bind (fun t76 => (q_ob M r2 2).bind (fun o77 => (f_Member_leastOwnBroken M r2 t47 t76).bind (fun t77 => if t77 = 0 then ((q_gtr M r0 8 6).bind (fun t84 => (q_ldi M t84 x1).bind (fun t89 => (f_Sharing_bitOf M x3).bind (fun t91 => (q_sti M t84 x1 (t89 ||| t91)).bind (fun M95 => rc 2 r0 x1 r2 x3 M95))))) else (rc 2 r0 x1 r2 x3 M))))))) else (rc 2 r0 x1 r2 x3 M))))))))
def a_Sharing_findAllowed_2 (rc : Nat → Nat → Int32 → Nat → Int32 → am_M → Option (Unit × am_M)) (r0 : Nat) (x1 : Int32) (r2 : Nat) (x3 : Int32) (M : am_M) : Option (Unit × am_M) := rc 1 r0 x1 r2 (x3 + (1 : Int32)) M
def g_Sharing_findAllowed : Nat → Nat → Nat → Int32 → Nat → Int32 → am_M → Option (Unit × am_M)
  | 0, _, _, _, _, _, _ => none
  | F + 1, 0, r0, x1, r2, x3, M => a_Sharing_findAllowed_0 (g_Sharing_findAllowed F) r0 x1 r2 x3 M
  | F + 1, 1, r0, x1, r2, x3, M => a_Sharing_findAllowed_1 (g_Sharing_findAllowed F) r0 x1 r2 x3 M
  | F + 1, 2, r0, x1, r2, x3, M => a_Sharing_findAllowed_2 (g_Sharing_findAllowed F) r0 x1 r2 x3 M
  | _ + 1, _ + 3, _, _, _, _, _ => none
def e_Sharing_findAllowed (rc : Nat → Nat → Int32 → Nat → Int32 → am_M → Option (Unit × am_M)) (M : am_M) (a0 : Nat) : Option (Unit × am_M) := rc 0 a0 (0 : Int32) 0 0 M
def f_Sharing_findAllowed (M : am_M) (a0 : Nat) : Option (Unit × am_M) := e_Sharing_findAllowed (g_Sharing_findAllowed 1000000000) M a0
theorem fl_Sharing_18 : am_fl "CrewOffice$Sharing" 18 8 6 := ⟨by decide, by decide, List.mem_of_getElem? (i := 407) (by decide +kernel)⟩
theorem fl_Sharing_77 : am_fl "CrewOffice$Sharing" 77 7 3 := ⟨by decide, by decide, List.mem_of_getElem? (i := 376) (by decide +kernel)⟩
theorem fl_Sharing_107 : am_fl "CrewOffice$Sharing" 107 4 2 := ⟨by decide, by decide, List.mem_of_getElem? (i := 270) (by decide +kernel)⟩
theorem fl_Sharing_112 : am_fl "CrewOffice$Sharing" 112 2 1 := ⟨by decide, by decide, List.mem_of_getElem? (i := 172) (by decide +kernel)⟩
theorem fl_Sharing_113 : am_fl "CrewOffice$Sharing" 113 3 3 := ⟨by decide, by decide, List.mem_of_getElem? (i := 233) (by decide +kernel)⟩
theorem kV_Sharing_103 : am_kV "CrewOffice$Sharing" 103 8 y_Sharing_workAt u_Sharing_workAt 1 := ⟨List.mem_of_getElem? (i := 906) (by decide +kernel), ⟨List.mem_of_getElem? (i := 908) (by decide +kernel), List.mem_of_getElem? (i := 21) (by decide +kernel)⟩, List.mem_of_getElem? (i := 64) (by decide +kernel), w_Sharing_workAt, ⟨⟨by decide +kernel, by decide +kernel⟩, by decide +kernel⟩⟩
theorem kV_Sharing_116 : am_kV "CrewOffice$Sharing" 116 2 y_Member_leastOwnBroken u_Member_leastOwnBroken 2 := ⟨List.mem_of_getElem? (i := 910) (by decide +kernel), ⟨List.mem_of_getElem? (i := 571) (by decide +kernel), List.mem_of_getElem? (i := 572) (by decide +kernel)⟩, List.mem_of_getElem? (i := 58) (by decide +kernel), w_Member_leastOwnBroken, ⟨⟨by decide +kernel, by decide +kernel⟩, by decide +kernel⟩⟩
set_option maxHeartbeats 4000000 in
theorem s_Sharing_findAllowed_0 {rc : Nat → Nat → Int32 → Nat → Int32 → am_M → Option (Unit × am_M)} {res : Unit} {M' : am_M} (ih_0 : ∀ (r0 : Nat) (x1 : Int32) (r2 : Nat) (x3 : Int32) (M : am_M), rc 0 r0 x1 r2 x3 M = some (res, M') → AW u_Sharing_findAllowed R_Sharing_findAllowed 0 0 2 [(0, .ref r0), (1, .int x1)] [] M (fun r M2 => r = .inl none ∧ M2 = M')) (ih_1 : ∀ (r0 : Nat) (x1 : Int32) (r2 : Nat) (x3 : Int32) (M : am_M), rc 1 r0 x1 r2 x3 M = some (res, M') → AW u_Sharing_findAllowed R_Sharing_findAllowed 0 0 34 [(0, .ref r0), (1, .int x1), (2, .ref r2), (3, .int x3)] [] M (fun r M2 => r = .inl none ∧ M2 = M')) (ih_2 : ∀ (r0 : Nat) (x1 : Int32) (r2 : Nat) (x3 : Int32) (M : am_M), rc 2 r0 x1 r2 x3 M = some (res, M') → AW u_Sharing_findAllowed R_Sharing_findAllowed 0 0 96 [(0, .ref r0), (1, .int x1), (2, .ref r2), (3, .int x3)] [] M (fun r M2 => r = .inl none ∧ M2 = M')) : ∀ (r0 : Nat) (x1 : Int32) (r2 : Nat) (x3 : Int32) (M : am_M), a_Sharing_findAllowed_0 rc r0 x1 r2 x3 M = some (res, M') → AW u_Sharing_findAllowed R_Sharing_findAllowed 0 0 2 [(0, .ref r0), (1, .int x1)] [] M (fun r M2 => r = .inl none ∧ M2 = M') := by
  intro r0 x1 r2 x3 M h
  unfold a_Sharing_findAllowed_0 at h
  refine aw_iload_n d_Sharing_findAllowed_2 rfl rfl ?_
  refine aw_aload_n d_Sharing_findAllowed_3 rfl rfl ?_
  obtain ⟨t4, e_t4, h⟩ := q_bind h
  refine aw_gti d_Sharing_findAllowed_4 fl_Sharing_81 (Or.inl rfl) e_t4 ?_
  refine aw_icmp_ge (tgt := 108) d_Sharing_findAllowed_7 (by decide) (fun hc => ?_) (fun hc => ?_)
  · rw [if_pos hc] at h
    cases h
    exact aw_vreturn d_Sharing_findAllowed_108 rfl (Nat.le_of_ble_eq_true rfl) (Nat.le_of_ble_eq_true rfl) ⟨rfl, rfl⟩
  · rw [if_neg hc] at h
    refine aw_aload_n d_Sharing_findAllowed_10 rfl rfl ?_
    obtain ⟨t11, e_t11, h⟩ := q_bind h
    refine aw_gtr d_Sharing_findAllowed_11 fl_Sharing_27 (Or.inl ⟨_, rfl⟩) e_t11 ?_
    obtain ⟨t14, e_t14, h⟩ := q_bind h
    refine aw_gtr d_Sharing_findAllowed_14 fl_Sharing_88 (Or.inr ⟨_, rfl⟩) e_t14 ?_
    refine aw_aload_n d_Sharing_findAllowed_17 rfl rfl ?_
    obtain ⟨t18, e_t18, h⟩ := q_bind h
    refine aw_gtr d_Sharing_findAllowed_18 fl_Sharing_15 (Or.inr ⟨_, rfl⟩) e_t18 ?_
    refine aw_iload_n d_Sharing_findAllowed_21 rfl rfl ?_
    obtain ⟨t22, e_t22, h⟩ := q_bind h
    refine aw_ldi d_Sharing_findAllowed_22 e_t22 ?_
    obtain ⟨t23, e_t23, h⟩ := q_bind h
    refine aw_ldr d_Sharing_findAllowed_23 e_t23 ?_
    refine aw_astore_n (ls' := [(2, .ref _), (0, .ref _), (1, .int _)]) d_Sharing_findAllowed_24 rfl (Nat.le_of_ble_eq_true rfl) rfl ?_
    refine aw_aload_n d_Sharing_findAllowed_25 rfl rfl ?_
    obtain ⟨t26, e_t26, h⟩ := q_bind h
    refine aw_gtr d_Sharing_findAllowed_26 fl_Sharing_18 (Or.inr ⟨_, rfl⟩) e_t26 ?_
    refine aw_iload_n d_Sharing_findAllowed_29 rfl rfl ?_
    refine aw_iconst (v := 0) d_Sharing_findAllowed_30 (by decide) ?_
    obtain ⟨M31, e_M31, h⟩ := q_bind h
    refine aw_sti d_Sharing_findAllowed_31 e_M31 ?_
    refine aw_iconst (v := 0) d_Sharing_findAllowed_32 (by decide) ?_
    refine aw_istore_n (ls' := [(3, .int _), (2, .ref _), (0, .ref _), (1, .int _)]) d_Sharing_findAllowed_33 rfl (Nat.le_of_ble_eq_true rfl) rfl ?_
    exact aw_pick [2, 3, 1, 0] rfl (ih_1 _ _ _ _ _ h)
set_option maxHeartbeats 4000000 in
theorem s_Sharing_findAllowed_1 {rc : Nat → Nat → Int32 → Nat → Int32 → am_M → Option (Unit × am_M)} {res : Unit} {M' : am_M} (ih_0 : ∀ (r0 : Nat) (x1 : Int32) (r2 : Nat) (x3 : Int32) (M : am_M), rc 0 r0 x1 r2 x3 M = some (res, M') → AW u_Sharing_findAllowed R_Sharing_findAllowed 0 0 2 [(0, .ref r0), (1, .int x1)] [] M (fun r M2 => r = .inl none ∧ M2 = M')) (ih_1 : ∀ (r0 : Nat) (x1 : Int32) (r2 : Nat) (x3 : Int32) (M : am_M), rc 1 r0 x1 r2 x3 M = some (res, M') → AW u_Sharing_findAllowed R_Sharing_findAllowed 0 0 34 [(0, .ref r0), (1, .int x1), (2, .ref r2), (3, .int x3)] [] M (fun r M2 => r = .inl none ∧ M2 = M')) (ih_2 : ∀ (r0 : Nat) (x1 : Int32) (r2 : Nat) (x3 : Int32) (M : am_M), rc 2 r0 x1 r2 x3 M = some (res, M') → AW u_Sharing_findAllowed R_Sharing_findAllowed 0 0 96 [(0, .ref r0), (1, .int x1), (2, .ref r2), (3, .int x3)] [] M (fun r M2 => r = .inl none ∧ M2 = M')) : ∀ (r0 : Nat) (x1 : Int32) (r2 : Nat) (x3 : Int32) (M : am_M), a_Sharing_findAllowed_1 rc r0 x1 r2 x3 M = some (res, M') → AW u_Sharing_findAllowed R_Sharing_findAllowed 0 0 34 [(0, .ref r0), (1, .int x1), (2, .ref r2), (3, .int x3)] [] M (fun r M2 => r = .inl none ∧ M2 = M') := by
  intro r0 x1 r2 x3 M h
  unfold a_Sharing_findAllowed_1 at h
  refine aw_iload_n d_Sharing_findAllowed_34 rfl rfl ?_
  refine aw_aload_n d_Sharing_findAllowed_35 rfl rfl ?_
  obtain ⟨t36, e_t36, h⟩ := q_bind h
  refine aw_gtr d_Sharing_findAllowed_36 fl_Sharing_35 (Or.inl ⟨_, rfl⟩) e_t36 ?_
  obtain ⟨t39, e_t39, h⟩ := q_bind h
  refine aw_gti d_Sharing_findAllowed_39 fl_Sharing_77 (Or.inl rfl) e_t39 ?_
  refine aw_icmp_ge (tgt := 102) d_Sharing_findAllowed_42 (by decide) (fun hc => ?_) (fun hc => ?_)
  · rw [if_pos hc] at h
    refine aw_iinc (v := (x1 + (1 : Int32))) (ls' := [(1, .int _), (0, .ref _), (2, .ref _), (3, .int _)]) d_Sharing_findAllowed_102 rfl rfl (Nat.le_of_ble_eq_true rfl) rfl ?_
    refine aw_goto (tgt := 2) d_Sharing_findAllowed_105 (by decide) ?_
    exact aw_pick [1, 0] rfl (ih_0 _ _ _ _ _ h)
  · rw [if_neg hc] at h
    refine aw_aload_n d_Sharing_findAllowed_45 rfl rfl ?_
    refine aw_iload_n d_Sharing_findAllowed_46 rfl rfl ?_
    obtain ⟨o47, e_o47, h⟩ := q_bind h
    obtain ⟨t47, e_t47, h⟩ := q_bind h
    refine aw_cV (v := (some (.ref t47))) (As := [.int x3]) (rest := []) (st' := [.ref t47]) d_Sharing_findAllowed_47 kV_Sharing_103 (q_ob_spec e_o47).1 (q_ob_spec e_o47).2 ⟨Nat.le_of_ble_eq_true rfl, Nat.le_of_ble_eq_true rfl, Nat.le_of_ble_eq_true rfl, Nat.le_of_ble_eq_true rfl⟩ rfl rfl (Nat.le_of_ble_eq_true rfl) rfl (mt_Sharing_workAt e_t47) ?_
    refine aw_astore (ls' := [(4, .ref _), (0, .ref _), (1, .int _), (2, .ref _), (3, .int _)]) d_Sharing_findAllowed_50 (Nat.le_of_ble_eq_true rfl) rfl ?_
    refine aw_aload d_Sharing_findAllowed_52 rfl ?_
    obtain ⟨t54, e_t54, h⟩ := q_bind h
    refine aw_gti d_Sharing_findAllowed_54 fl_Sharing_107 (Or.inl rfl) e_t54 ?_
    refine aw_aload_n d_Sharing_findAllowed_57 rfl rfl ?_
    obtain ⟨t58, e_t58, h⟩ := q_bind h
    refine aw_gti d_Sharing_findAllowed_58 fl_Sharing_112 (Or.inl rfl) e_t58 ?_
    refine aw_icmp_ne (tgt := 96) d_Sharing_findAllowed_61 (by decide) (fun hc => ?_) (fun hc => ?_)
    · rw [if_neg hc] at h
      exact aw_pick [1, 2, 3, 4] rfl (ih_2 _ _ _ _ _ h)
    · rw [if_pos hc] at h
      refine aw_aload_n d_Sharing_findAllowed_64 rfl rfl ?_
      refine aw_aload d_Sharing_findAllowed_65 rfl ?_
      refine aw_aload_n d_Sharing_findAllowed_67 rfl rfl ?_
      obtain ⟨t68, e_t68, h⟩ := q_bind h
      refine aw_gtr d_Sharing_findAllowed_68 fl_Sharing_27 (Or.inl ⟨_, rfl⟩) e_t68 ?_
      obtain ⟨t71, e_t71, h⟩ := q_bind h
      refine aw_gtr d_Sharing_findAllowed_71 fl_Sharing_113 (Or.inr ⟨_, rfl⟩) e_t71 ?_
      refine aw_bipush (v := 10) d_Sharing_findAllowed_74 (by decide) ?_
      obtain ⟨t76, e_t76, h⟩ := q_bind h
      refine aw_ldi d_Sharing_findAllowed_76 e_t76 ?_
      obtain ⟨o77, e_o77, h⟩ := q_bind h
      obtain ⟨t77, e_t77, h⟩ := q_bind h
      refine aw_cV (v := (some (.int t77))) (As := [.ref t47, .int t76]) (rest := []) (st' := [.int t77]) d_Sharing_findAllowed_77 kV_Sharing_116 (q_ob_spec e_o77).1 (q_ob_spec e_o77).2 ⟨Nat.le_of_ble_eq_true rfl, Nat.le_of_ble_eq_true rfl, Nat.le_of_ble_eq_true rfl, Nat.le_of_ble_eq_true rfl⟩ rfl rfl (Nat.le_of_ble_eq_true rfl) rfl (mt_Member_leastOwnBroken e_t77) ?_
      refine aw_if_ne (tgt := 96) d_Sharing_findAllowed_80 (by decide) (fun hc => ?_) (fun hc => ?_)
      · rw [if_neg hc] at h
        exact aw_pick [1, 2, 3, 4] rfl (ih_2 _ _ _ _ _ h)
      · rw [if_pos hc] at h
        refine aw_aload_n d_Sharing_findAllowed_83 rfl rfl ?_
        obtain ⟨t84, e_t84, h⟩ := q_bind h
        refine aw_gtr d_Sharing_findAllowed_84 fl_Sharing_18 (Or.inr ⟨_, rfl⟩) e_t84 ?_
        refine aw_iload_n d_Sharing_findAllowed_87 rfl rfl ?_
        refine aw_dup2 d_Sharing_findAllowed_88 rfl rfl ?_
        obtain ⟨t89, e_t89, h⟩ := q_bind h
        refine aw_ldi d_Sharing_findAllowed_89 e_t89 ?_
        refine aw_iload_n d_Sharing_findAllowed_90 rfl rfl ?_
        obtain ⟨t91, e_t91, h⟩ := q_bind h
        refine aw_cS (v := (some (.int t91))) (As := [.int x3]) (rest := [.int t89, .int x1, .ref t84]) (st' := [.int t91, .int t89, .int x1, .ref t84]) d_Sharing_findAllowed_91 kS_Sharing_56 ⟨Nat.le_of_ble_eq_true rfl, Nat.le_of_ble_eq_true rfl, Nat.le_of_ble_eq_true rfl, Nat.le_of_ble_eq_true rfl⟩ rfl rfl (Nat.le_of_ble_eq_true rfl) rfl (mt_Sharing_bitOf e_t91) ?_
        refine aw_ior d_Sharing_findAllowed_94 ?_
        obtain ⟨M95, e_M95, h⟩ := q_bind h
        refine aw_sti d_Sharing_findAllowed_95 e_M95 ?_
        exact aw_pick [1, 2, 3, 4] rfl (ih_2 _ _ _ _ _ h)
set_option maxHeartbeats 4000000 in
theorem s_Sharing_findAllowed_2 {rc : Nat → Nat → Int32 → Nat → Int32 → am_M → Option (Unit × am_M)} {res : Unit} {M' : am_M} (ih_0 : ∀ (r0 : Nat) (x1 : Int32) (r2 : Nat) (x3 : Int32) (M : am_M), rc 0 r0 x1 r2 x3 M = some (res, M') → AW u_Sharing_findAllowed R_Sharing_findAllowed 0 0 2 [(0, .ref r0), (1, .int x1)] [] M (fun r M2 => r = .inl none ∧ M2 = M')) (ih_1 : ∀ (r0 : Nat) (x1 : Int32) (r2 : Nat) (x3 : Int32) (M : am_M), rc 1 r0 x1 r2 x3 M = some (res, M') → AW u_Sharing_findAllowed R_Sharing_findAllowed 0 0 34 [(0, .ref r0), (1, .int x1), (2, .ref r2), (3, .int x3)] [] M (fun r M2 => r = .inl none ∧ M2 = M')) (ih_2 : ∀ (r0 : Nat) (x1 : Int32) (r2 : Nat) (x3 : Int32) (M : am_M), rc 2 r0 x1 r2 x3 M = some (res, M') → AW u_Sharing_findAllowed R_Sharing_findAllowed 0 0 96 [(0, .ref r0), (1, .int x1), (2, .ref r2), (3, .int x3)] [] M (fun r M2 => r = .inl none ∧ M2 = M')) : ∀ (r0 : Nat) (x1 : Int32) (r2 : Nat) (x3 : Int32) (M : am_M), a_Sharing_findAllowed_2 rc r0 x1 r2 x3 M = some (res, M') → AW u_Sharing_findAllowed R_Sharing_findAllowed 0 0 96 [(0, .ref r0), (1, .int x1), (2, .ref r2), (3, .int x3)] [] M (fun r M2 => r = .inl none ∧ M2 = M') := by
  intro r0 x1 r2 x3 M h
  unfold a_Sharing_findAllowed_2 at h
  refine aw_iinc (v := (x3 + (1 : Int32))) (ls' := [(3, .int _), (0, .ref _), (1, .int _), (2, .ref _)]) d_Sharing_findAllowed_96 rfl rfl (Nat.le_of_ble_eq_true rfl) rfl ?_
  refine aw_goto (tgt := 34) d_Sharing_findAllowed_99 (by decide) ?_
  exact aw_pick [1, 2, 3, 0] rfl (ih_1 _ _ _ _ _ h)
theorem l_Sharing_findAllowed {res : Unit} {M' : am_M} : ∀ F : Nat, (∀ (r0 : Nat) (x1 : Int32) (r2 : Nat) (x3 : Int32) (M : am_M), g_Sharing_findAllowed F 0 r0 x1 r2 x3 M = some (res, M') → AW u_Sharing_findAllowed R_Sharing_findAllowed 0 0 2 [(0, .ref r0), (1, .int x1)] [] M (fun r M2 => r = .inl none ∧ M2 = M')) ∧ (∀ (r0 : Nat) (x1 : Int32) (r2 : Nat) (x3 : Int32) (M : am_M), g_Sharing_findAllowed F 1 r0 x1 r2 x3 M = some (res, M') → AW u_Sharing_findAllowed R_Sharing_findAllowed 0 0 34 [(0, .ref r0), (1, .int x1), (2, .ref r2), (3, .int x3)] [] M (fun r M2 => r = .inl none ∧ M2 = M')) ∧ (∀ (r0 : Nat) (x1 : Int32) (r2 : Nat) (x3 : Int32) (M : am_M), g_Sharing_findAllowed F 2 r0 x1 r2 x3 M = some (res, M') → AW u_Sharing_findAllowed R_Sharing_findAllowed 0 0 96 [(0, .ref r0), (1, .int x1), (2, .ref r2), (3, .int x3)] [] M (fun r M2 => r = .inl none ∧ M2 = M')) := by
  intro F
  induction F with
  | zero => exact ⟨fun _ _ _ _ _  h => (by cases h), fun _ _ _ _ _  h => (by cases h), fun _ _ _ _ _  h => (by cases h)⟩
  | succ F ih =>
    obtain ⟨ih0, ih1, ih2⟩ := ih
    exact ⟨s_Sharing_findAllowed_0 ih0 ih1 ih2, s_Sharing_findAllowed_1 ih0 ih1 ih2, s_Sharing_findAllowed_2 ih0 ih1 ih2⟩
set_option maxHeartbeats 4000000 in
theorem mt_Sharing_findAllowed {M : am_M} {a0 : Nat} {res : Unit} {M' : am_M} (h : f_Sharing_findAllowed M a0 = some (res, M')) : AMet y_Sharing_findAllowed u_Sharing_findAllowed R_Sharing_findAllowed [.ref a0] M (fun r M2 => r = .inl none ∧ M2 = M') := by
  refine am_met (by decide +kernel) w_Sharing_findAllowed rfl rfl (Nat.le_of_ble_eq_true rfl) ?_
  show AW u_Sharing_findAllowed R_Sharing_findAllowed 0 0 0 [(0, .ref a0)] [] M (fun r M2 => r = .inl none ∧ M2 = M')
  have ih_0 := (l_Sharing_findAllowed (res := res) (M' := M') 1000000000).1
  have ih_1 := (l_Sharing_findAllowed (res := res) (M' := M') 1000000000).2.1
  have ih_2 := (l_Sharing_findAllowed (res := res) (M' := M') 1000000000).2.2
  unfold f_Sharing_findAllowed at h
  unfold e_Sharing_findAllowed at h
  generalize g_Sharing_findAllowed 1000000000 = rc at h ih_0 ih_1 ih_2
  refine aw_iconst (v := 0) d_Sharing_findAllowed_0 (by decide) ?_
  refine aw_istore_n (ls' := [(1, .int _), (0, .ref _)]) d_Sharing_findAllowed_1 rfl (Nat.le_of_ble_eq_true rfl) rfl ?_
  exact aw_pick [1, 0] rfl (ih_0 _ _ _ _ _ h)
def y_Sharing_areRivals : MethodName := ⟨"CrewOffice$Sharing", "areRivals", "(LCrewOffice$Work;LCrewOffice$Work;)Z"⟩
def u_Sharing_areRivals : am_U := ("CrewOffice$Sharing", "areRivals", prog_8_method_11_code, 4, (some .boolean), [])
def R_Sharing_areRivals : Room := { frames := 0, cells := 0, slots := 0, locals := 0 }
theorem d_Sharing_areRivals_0 : decode u_Sharing_areRivals.2.2.1 0 = .ok (.aload_n 0, 1) := by decide +kernel
theorem d_Sharing_areRivals_1 : decode u_Sharing_areRivals.2.2.1 1 = .ok (.getfield 27, 3) := by decide +kernel
theorem d_Sharing_areRivals_4 : decode u_Sharing_areRivals.2.2.1 4 = .ok (.getfield 113, 3) := by decide +kernel
theorem d_Sharing_areRivals_7 : decode u_Sharing_areRivals.2.2.1 7 = .ok (.iconst 4, 1) := by decide +kernel
theorem d_Sharing_areRivals_8 : decode u_Sharing_areRivals.2.2.1 8 = .ok (.iaload, 1) := by decide +kernel
theorem d_Sharing_areRivals_9 : decode u_Sharing_areRivals.2.2.1 9 = .ok (.istore_n 3, 1) := by decide +kernel
theorem d_Sharing_areRivals_10 : decode u_Sharing_areRivals.2.2.1 10 = .ok (.aload_n 1, 1) := by decide +kernel
theorem d_Sharing_areRivals_11 : decode u_Sharing_areRivals.2.2.1 11 = .ok (.getfield 124, 3) := by decide +kernel
theorem d_Sharing_areRivals_14 : decode u_Sharing_areRivals.2.2.1 14 = .ok (.aload_n 2, 1) := by decide +kernel
theorem d_Sharing_areRivals_15 : decode u_Sharing_areRivals.2.2.1 15 = .ok (.getfield 127, 3) := by decide +kernel
theorem d_Sharing_areRivals_18 : decode u_Sharing_areRivals.2.2.1 18 = .ok (.iload_n 3, 1) := by decide +kernel
theorem d_Sharing_areRivals_19 : decode u_Sharing_areRivals.2.2.1 19 = .ok (.iadd, 1) := by decide +kernel
theorem d_Sharing_areRivals_20 : decode u_Sharing_areRivals.2.2.1 20 = .ok (.if_icmp .ge 20, 3) := by decide +kernel
theorem d_Sharing_areRivals_23 : decode u_Sharing_areRivals.2.2.1 23 = .ok (.aload_n 2, 1) := by decide +kernel
theorem d_Sharing_areRivals_24 : decode u_Sharing_areRivals.2.2.1 24 = .ok (.getfield 124, 3) := by decide +kernel
theorem d_Sharing_areRivals_27 : decode u_Sharing_areRivals.2.2.1 27 = .ok (.aload_n 1, 1) := by decide +kernel
theorem d_Sharing_areRivals_28 : decode u_Sharing_areRivals.2.2.1 28 = .ok (.getfield 127, 3) := by decide +kernel
theorem d_Sharing_areRivals_31 : decode u_Sharing_areRivals.2.2.1 31 = .ok (.iload_n 3, 1) := by decide +kernel
theorem d_Sharing_areRivals_32 : decode u_Sharing_areRivals.2.2.1 32 = .ok (.iadd, 1) := by decide +kernel
theorem d_Sharing_areRivals_33 : decode u_Sharing_areRivals.2.2.1 33 = .ok (.if_icmp .ge 7, 3) := by decide +kernel
theorem d_Sharing_areRivals_36 : decode u_Sharing_areRivals.2.2.1 36 = .ok (.iconst 1, 1) := by decide +kernel
theorem d_Sharing_areRivals_37 : decode u_Sharing_areRivals.2.2.1 37 = .ok (.goto 4, 3) := by decide +kernel
theorem d_Sharing_areRivals_40 : decode u_Sharing_areRivals.2.2.1 40 = .ok (.iconst 0, 1) := by decide +kernel
theorem d_Sharing_areRivals_41 : decode u_Sharing_areRivals.2.2.1 41 = .ok (.ireturn, 1) := by decide +kernel
theorem w_Sharing_areRivals : am_code y_Sharing_areRivals u_Sharing_areRivals ∈ am_ws := am_mem (List.mem_of_getElem? (i := 921) (by decide +kernel)) rfl
def e_Sharing_areRivals (M : am_M) (a0 : Nat) (a1 : Nat) (a2 : Nat) : Option (Int32) := (q_gtr M a0 8 0).bind (fun t1 => (q_gtr M t1 3 3).bind (fun t4 => (q_ldi M t4 (4 : Int32)).bind (fun t8 => (q_gti M a1 4 3).bind (fun t11 => (q_gti M a2 4 4).bind (fun t15 => if (t15 + t8) ≤ t11 then (some (0 : Int32)) else ((q_gti M a2 4 3).bind (fun t24 => (q_gti M a1 4 4).bind (fun t28 => if (t28 + t8) ≤ t24 then (some (0 : Int32)) else (some (1 : Int32))))))))))
def f_Sharing_areRivals (M : am_M) (a0 : Nat) (a1 : Nat) (a2 : Nat) : Option (Int32) := e_Sharing_areRivals M a0 a1 a2
theorem fl_Sharing_124 : am_fl "CrewOffice$Sharing" 124 4 3 := ⟨by decide, by decide, List.mem_of_getElem? (i := 275) (by decide +kernel)⟩
theorem fl_Sharing_127 : am_fl "CrewOffice$Sharing" 127 4 4 := ⟨by decide, by decide, List.mem_of_getElem? (i := 281) (by decide +kernel)⟩
set_option maxHeartbeats 4000000 in
theorem mt_Sharing_areRivals {M : am_M} {a0 : Nat} {a1 : Nat} {a2 : Nat} {res : Int32} (h : f_Sharing_areRivals M a0 a1 a2 = some res) : AMet y_Sharing_areRivals u_Sharing_areRivals R_Sharing_areRivals [.ref a0, .ref a1, .ref a2] M (fun r M2 => r = .inl (some (.int res)) ∧ M2 = M) := by
  refine am_met (by decide +kernel) w_Sharing_areRivals rfl rfl (Nat.le_of_ble_eq_true rfl) ?_
  show AW u_Sharing_areRivals R_Sharing_areRivals 0 0 0 [(0, .ref a0), (1, .ref a1), (2, .ref a2)] [] M (fun r M2 => r = .inl (some (.int res)) ∧ M2 = M)
  unfold f_Sharing_areRivals at h
  unfold e_Sharing_areRivals at h
  refine aw_aload_n d_Sharing_areRivals_0 rfl rfl ?_
  obtain ⟨t1, e_t1, h⟩ := q_bind h
  refine aw_gtr d_Sharing_areRivals_1 fl_Sharing_27 (Or.inl ⟨_, rfl⟩) e_t1 ?_
  obtain ⟨t4, e_t4, h⟩ := q_bind h
  refine aw_gtr d_Sharing_areRivals_4 fl_Sharing_113 (Or.inr ⟨_, rfl⟩) e_t4 ?_
  refine aw_iconst (v := 4) d_Sharing_areRivals_7 (by decide) ?_
  obtain ⟨t8, e_t8, h⟩ := q_bind h
  refine aw_ldi d_Sharing_areRivals_8 e_t8 ?_
  refine aw_istore_n (ls' := [(3, .int _), (0, .ref _), (1, .ref _), (2, .ref _)]) d_Sharing_areRivals_9 rfl (Nat.le_of_ble_eq_true rfl) rfl ?_
  refine aw_aload_n d_Sharing_areRivals_10 rfl rfl ?_
  obtain ⟨t11, e_t11, h⟩ := q_bind h
  refine aw_gti d_Sharing_areRivals_11 fl_Sharing_124 (Or.inl rfl) e_t11 ?_
  refine aw_aload_n d_Sharing_areRivals_14 rfl rfl ?_
  obtain ⟨t15, e_t15, h⟩ := q_bind h
  refine aw_gti d_Sharing_areRivals_15 fl_Sharing_127 (Or.inl rfl) e_t15 ?_
  refine aw_iload_n d_Sharing_areRivals_18 rfl rfl ?_
  refine aw_iadd d_Sharing_areRivals_19 ?_
  refine aw_icmp_ge (tgt := 40) d_Sharing_areRivals_20 (by decide) (fun hc => ?_) (fun hc => ?_)
  · rw [if_pos hc] at h
    refine aw_iconst (v := 0) d_Sharing_areRivals_40 (by decide) ?_
    cases h
    exact aw_zreturn d_Sharing_areRivals_41 rfl (by decide) (Nat.le_of_ble_eq_true rfl) (Nat.le_of_ble_eq_true rfl) ⟨rfl, rfl⟩
  · rw [if_neg hc] at h
    refine aw_aload_n d_Sharing_areRivals_23 rfl rfl ?_
    obtain ⟨t24, e_t24, h⟩ := q_bind h
    refine aw_gti d_Sharing_areRivals_24 fl_Sharing_124 (Or.inl rfl) e_t24 ?_
    refine aw_aload_n d_Sharing_areRivals_27 rfl rfl ?_
    obtain ⟨t28, e_t28, h⟩ := q_bind h
    refine aw_gti d_Sharing_areRivals_28 fl_Sharing_127 (Or.inl rfl) e_t28 ?_
    refine aw_iload_n d_Sharing_areRivals_31 rfl rfl ?_
    refine aw_iadd d_Sharing_areRivals_32 ?_
    refine aw_icmp_ge (tgt := 40) d_Sharing_areRivals_33 (by decide) (fun hc => ?_) (fun hc => ?_)
    · rw [if_pos hc] at h
      refine aw_iconst (v := 0) d_Sharing_areRivals_40 (by decide) ?_
      cases h
      exact aw_zreturn d_Sharing_areRivals_41 rfl (by decide) (Nat.le_of_ble_eq_true rfl) (Nat.le_of_ble_eq_true rfl) ⟨rfl, rfl⟩
    · rw [if_neg hc] at h
      refine aw_iconst (v := 1) d_Sharing_areRivals_36 (by decide) ?_
      refine aw_goto (tgt := 41) d_Sharing_areRivals_37 (by decide) ?_
      cases h
      exact aw_zreturn d_Sharing_areRivals_41 rfl (by decide) (Nat.le_of_ble_eq_true rfl) (Nat.le_of_ble_eq_true rfl) ⟨rfl, rfl⟩
def y_Sharing_fits : MethodName := ⟨"CrewOffice$Sharing", "fits", "(II)Z"⟩
def u_Sharing_fits : am_U := ("CrewOffice$Sharing", "fits", prog_8_method_13_code, 5, (some .boolean), [])
def R_Sharing_fits : Room := { frames := 1, cells := 0, slots := 0, locals := 21 }
theorem d_Sharing_fits_0 : decode u_Sharing_fits.2.2.1 0 = .ok (.iload_n 2, 1) := by decide +kernel
theorem d_Sharing_fits_1 : decode u_Sharing_fits.2.2.1 1 = .ok (.aload_n 0, 1) := by decide +kernel
theorem d_Sharing_fits_2 : decode u_Sharing_fits.2.2.1 2 = .ok (.getfield 18, 3) := by decide +kernel
theorem d_Sharing_fits_5 : decode u_Sharing_fits.2.2.1 5 = .ok (.iload_n 1, 1) := by decide +kernel
theorem d_Sharing_fits_6 : decode u_Sharing_fits.2.2.1 6 = .ok (.iaload, 1) := by decide +kernel
theorem d_Sharing_fits_7 : decode u_Sharing_fits.2.2.1 7 = .ok (.iconst (-1), 1) := by decide +kernel
theorem d_Sharing_fits_8 : decode u_Sharing_fits.2.2.1 8 = .ok (.ixor, 1) := by decide +kernel
theorem d_Sharing_fits_9 : decode u_Sharing_fits.2.2.1 9 = .ok (.iand, 1) := by decide +kernel
theorem d_Sharing_fits_10 : decode u_Sharing_fits.2.2.1 10 = .ok (.ifCond .eq 5, 3) := by decide +kernel
theorem d_Sharing_fits_13 : decode u_Sharing_fits.2.2.1 13 = .ok (.iconst 0, 1) := by decide +kernel
theorem d_Sharing_fits_14 : decode u_Sharing_fits.2.2.1 14 = .ok (.ireturn, 1) := by decide +kernel
theorem d_Sharing_fits_15 : decode u_Sharing_fits.2.2.1 15 = .ok (.iconst 0, 1) := by decide +kernel
theorem d_Sharing_fits_16 : decode u_Sharing_fits.2.2.1 16 = .ok (.istore_n 3, 1) := by decide +kernel
theorem d_Sharing_fits_17 : decode u_Sharing_fits.2.2.1 17 = .ok (.iconst 0, 1) := by decide +kernel
theorem d_Sharing_fits_18 : decode u_Sharing_fits.2.2.1 18 = .ok (.istore 4, 2) := by decide +kernel
theorem d_Sharing_fits_20 : decode u_Sharing_fits.2.2.1 20 = .ok (.iload 4, 2) := by decide +kernel
theorem d_Sharing_fits_22 : decode u_Sharing_fits.2.2.1 22 = .ok (.aload_n 0, 1) := by decide +kernel
theorem d_Sharing_fits_23 : decode u_Sharing_fits.2.2.1 23 = .ok (.getfield 35, 3) := by decide +kernel
theorem d_Sharing_fits_26 : decode u_Sharing_fits.2.2.1 26 = .ok (.getfield 77, 3) := by decide +kernel
theorem d_Sharing_fits_29 : decode u_Sharing_fits.2.2.1 29 = .ok (.if_icmp .ge 45, 3) := by decide +kernel
theorem d_Sharing_fits_32 : decode u_Sharing_fits.2.2.1 32 = .ok (.iload_n 2, 1) := by decide +kernel
theorem d_Sharing_fits_33 : decode u_Sharing_fits.2.2.1 33 = .ok (.iload 4, 2) := by decide +kernel
theorem d_Sharing_fits_35 : decode u_Sharing_fits.2.2.1 35 = .ok (.invokestatic 56, 3) := by decide +kernel
theorem d_Sharing_fits_38 : decode u_Sharing_fits.2.2.1 38 = .ok (.iand, 1) := by decide +kernel
theorem d_Sharing_fits_39 : decode u_Sharing_fits.2.2.1 39 = .ok (.ifCond .eq 29, 3) := by decide +kernel
theorem d_Sharing_fits_42 : decode u_Sharing_fits.2.2.1 42 = .ok (.iload_n 2, 1) := by decide +kernel
theorem d_Sharing_fits_43 : decode u_Sharing_fits.2.2.1 43 = .ok (.aload_n 0, 1) := by decide +kernel
theorem d_Sharing_fits_44 : decode u_Sharing_fits.2.2.1 44 = .ok (.getfield 24, 3) := by decide +kernel
theorem d_Sharing_fits_47 : decode u_Sharing_fits.2.2.1 47 = .ok (.iload 4, 2) := by decide +kernel
theorem d_Sharing_fits_49 : decode u_Sharing_fits.2.2.1 49 = .ok (.iaload, 1) := by decide +kernel
theorem d_Sharing_fits_50 : decode u_Sharing_fits.2.2.1 50 = .ok (.iand, 1) := by decide +kernel
theorem d_Sharing_fits_51 : decode u_Sharing_fits.2.2.1 51 = .ok (.ifCond .eq 5, 3) := by decide +kernel
theorem d_Sharing_fits_54 : decode u_Sharing_fits.2.2.1 54 = .ok (.iconst 0, 1) := by decide +kernel
theorem d_Sharing_fits_55 : decode u_Sharing_fits.2.2.1 55 = .ok (.ireturn, 1) := by decide +kernel
theorem d_Sharing_fits_56 : decode u_Sharing_fits.2.2.1 56 = .ok (.iload_n 3, 1) := by decide +kernel
theorem d_Sharing_fits_57 : decode u_Sharing_fits.2.2.1 57 = .ok (.aload_n 0, 1) := by decide +kernel
theorem d_Sharing_fits_58 : decode u_Sharing_fits.2.2.1 58 = .ok (.iload 4, 2) := by decide +kernel
theorem d_Sharing_fits_60 : decode u_Sharing_fits.2.2.1 60 = .ok (.invokevirtual 103, 3) := by decide +kernel
theorem d_Sharing_fits_63 : decode u_Sharing_fits.2.2.1 63 = .ok (.getfield 142, 3) := by decide +kernel
theorem d_Sharing_fits_66 : decode u_Sharing_fits.2.2.1 66 = .ok (.iadd, 1) := by decide +kernel
theorem d_Sharing_fits_67 : decode u_Sharing_fits.2.2.1 67 = .ok (.istore_n 3, 1) := by decide +kernel
theorem d_Sharing_fits_68 : decode u_Sharing_fits.2.2.1 68 = .ok (.iinc 4 1, 3) := by decide +kernel
theorem d_Sharing_fits_71 : decode u_Sharing_fits.2.2.1 71 = .ok (.goto (-51), 3) := by decide +kernel
theorem d_Sharing_fits_74 : decode u_Sharing_fits.2.2.1 74 = .ok (.iload_n 2, 1) := by decide +kernel
theorem d_Sharing_fits_75 : decode u_Sharing_fits.2.2.1 75 = .ok (.ifCond .eq 35, 3) := by decide +kernel
theorem d_Sharing_fits_78 : decode u_Sharing_fits.2.2.1 78 = .ok (.aload_n 0, 1) := by decide +kernel
theorem d_Sharing_fits_79 : decode u_Sharing_fits.2.2.1 79 = .ok (.getfield 27, 3) := by decide +kernel
theorem d_Sharing_fits_82 : decode u_Sharing_fits.2.2.1 82 = .ok (.getfield 88, 3) := by decide +kernel
theorem d_Sharing_fits_85 : decode u_Sharing_fits.2.2.1 85 = .ok (.aload_n 0, 1) := by decide +kernel
theorem d_Sharing_fits_86 : decode u_Sharing_fits.2.2.1 86 = .ok (.getfield 15, 3) := by decide +kernel
theorem d_Sharing_fits_89 : decode u_Sharing_fits.2.2.1 89 = .ok (.iload_n 1, 1) := by decide +kernel
theorem d_Sharing_fits_90 : decode u_Sharing_fits.2.2.1 90 = .ok (.iaload, 1) := by decide +kernel
theorem d_Sharing_fits_91 : decode u_Sharing_fits.2.2.1 91 = .ok (.aaload, 1) := by decide +kernel
theorem d_Sharing_fits_92 : decode u_Sharing_fits.2.2.1 92 = .ok (.getfield 145, 3) := by decide +kernel
theorem d_Sharing_fits_95 : decode u_Sharing_fits.2.2.1 95 = .ok (.iload_n 3, 1) := by decide +kernel
theorem d_Sharing_fits_96 : decode u_Sharing_fits.2.2.1 96 = .ok (.iadd, 1) := by decide +kernel
theorem d_Sharing_fits_97 : decode u_Sharing_fits.2.2.1 97 = .ok (.aload_n 0, 1) := by decide +kernel
theorem d_Sharing_fits_98 : decode u_Sharing_fits.2.2.1 98 = .ok (.getfield 27, 3) := by decide +kernel
theorem d_Sharing_fits_101 : decode u_Sharing_fits.2.2.1 101 = .ok (.getfield 113, 3) := by decide +kernel
theorem d_Sharing_fits_104 : decode u_Sharing_fits.2.2.1 104 = .ok (.bipush 10, 2) := by decide +kernel
theorem d_Sharing_fits_106 : decode u_Sharing_fits.2.2.1 106 = .ok (.iaload, 1) := by decide +kernel
theorem d_Sharing_fits_107 : decode u_Sharing_fits.2.2.1 107 = .ok (.if_icmp .gt 7, 3) := by decide +kernel
theorem d_Sharing_fits_110 : decode u_Sharing_fits.2.2.1 110 = .ok (.iconst 1, 1) := by decide +kernel
theorem d_Sharing_fits_111 : decode u_Sharing_fits.2.2.1 111 = .ok (.goto 4, 3) := by decide +kernel
theorem d_Sharing_fits_114 : decode u_Sharing_fits.2.2.1 114 = .ok (.iconst 0, 1) := by decide +kernel
theorem d_Sharing_fits_115 : decode u_Sharing_fits.2.2.1 115 = .ok (.ireturn, 1) := by decide +kernel
theorem w_Sharing_fits : am_code y_Sharing_fits u_Sharing_fits ∈ am_ws := am_mem (List.mem_of_getElem? (i := 929) (by decide +kernel)) rfl
def a_Sharing_fits_0 (rc : Nat → Nat → Int32 → Int32 → Int32 → Int32 → am_M → Option (Int32)) (r0 : Nat) (x1 : Int32) (x2 : Int32) (x3 : Int32) (x4 : Int32) (M : am_M) : Option (Int32) := (q_gtr M r0 8 2).bind (fun t23 => (q_gti M t23 7 3).bind (fun t26 => if t26 ≤ x4 then (if x2 = 0 then (rc 2 0 0 0 0 0 M) else ((q_gtr M r0 8 0).bind (fun t79 => (q_gtr M t79 3 2).bind (fun t82 => (q_gtr M r0 8 4).bind (fun t86 => (q_ldi M t86 x1).bind (fun t90 => (q_ldr M t82 t90).bind (fun t91 => (q_gti M t91 2 4).bind (fun t92 => (q_gtr M r0 8 0).bind (fun t98 => (q_gtr M t98 3 3).bind (fun t101 => (q_ldi M t101 (10 : Int32)).bind (fun t106 => if t106 < (t92 + x3) then (some (0 : Int32)) else (rc 2 0 0 0 0 0 M)))))))))))) else ((f_Sharing_bitOf M x4).bind (fun t35 => if (x2 &&& t35) = 0 then (rc 1 r0 x1 x2 x3 x4 M) else ((q_gtr M r0 8 8).bind (fun t44 => (q_ldi M t44 x4).bind (fun t49 => if (x2 &&& t49) = 0 then ((q_ob M r0 8).bind (fun o60 => (f_Sharing_workAt M r0 x4).bind (fun t60 => (q_gti M t60 4 5).bind (fun t63 => rc 1 r0 x1 x2 (x3 + t63) x4 M)))) else (some (0 : Int32)))))))))
def a_Sharing_fits_1 (rc : Nat → Nat → Int32 → Int32 → Int32 → Int32 → am_M → Option (Int32)) (r0 : Nat) (x1 : Int32) (x2 : Int32) (x3 : Int32) (x4 : Int32) (M : am_M) : Option (Int32) := rc 0 r0 x1 x2 x3 (x4 + (1 : Int32)) M
def a_Sharing_fits_2 (rc : Nat → Nat → Int32 → Int32 → Int32 → Int32 → am_M → Option (Int32)) (r0 : Nat) (x1 : Int32) (x2 : Int32) (x3 : Int32) (x4 : Int32) (M : am_M) : Option (Int32) := some (1 : Int32)
def g_Sharing_fits : Nat → Nat → Nat → Int32 → Int32 → Int32 → Int32 → am_M → Option (Int32)
  | 0, _, _, _, _, _, _, _ => none
  | F + 1, 0, r0, x1, x2, x3, x4, M => a_Sharing_fits_0 (g_Sharing_fits F) r0 x1 x2 x3 x4 M
  | F + 1, 1, r0, x1, x2, x3, x4, M => a_Sharing_fits_1 (g_Sharing_fits F) r0 x1 x2 x3 x4 M
  | F + 1, 2, r0, x1, x2, x3, x4, M => a_Sharing_fits_2 (g_Sharing_fits F) r0 x1 x2 x3 x4 M
  | _ + 1, _ + 3, _, _, _, _, _, _ => none
def e_Sharing_fits (rc : Nat → Nat → Int32 → Int32 → Int32 → Int32 → am_M → Option (Int32)) (M : am_M) (a0 : Nat) (a1 : Int32) (a2 : Int32) : Option (Int32) := (q_gtr M a0 8 6).bind (fun t2 => (q_ldi M t2 a1).bind (fun t6 => if (a2 &&& (t6 ^^^ (-1 : Int32))) = 0 then (rc 0 a0 a1 a2 (0 : Int32) (0 : Int32) M) else (some (0 : Int32))))
def f_Sharing_fits (M : am_M) (a0 : Nat) (a1 : Int32) (a2 : Int32) : Option (Int32) := e_Sharing_fits (g_Sharing_fits 1000000000) M a0 a1 a2
theorem fl_Sharing_24 : am_fl "CrewOffice$Sharing" 24 8 8 := ⟨by decide, by decide, List.mem_of_getElem? (i := 409) (by decide +kernel)⟩
theorem fl_Sharing_142 : am_fl "CrewOffice$Sharing" 142 4 5 := ⟨by decide, by decide, List.mem_of_getElem? (i := 286) (by decide +kernel)⟩
theorem fl_Sharing_145 : am_fl "CrewOffice$Sharing" 145 2 4 := ⟨by decide, by decide, List.mem_of_getElem? (i := 177) (by decide +kernel)⟩
set_option maxHeartbeats 4000000 in
theorem s_Sharing_fits_0 {rc : Nat → Nat → Int32 → Int32 → Int32 → Int32 → am_M → Option (Int32)} {res : Int32} (ih_0 : ∀ (r0 : Nat) (x1 : Int32) (x2 : Int32) (x3 : Int32) (x4 : Int32) (M : am_M), rc 0 r0 x1 x2 x3 x4 M = some res → AW u_Sharing_fits R_Sharing_fits 0 0 20 [(0, .ref r0), (1, .int x1), (2, .int x2), (3, .int x3), (4, .int x4)] [] M (fun r M2 => r = .inl (some (.int res)) ∧ M2 = M)) (ih_1 : ∀ (r0 : Nat) (x1 : Int32) (x2 : Int32) (x3 : Int32) (x4 : Int32) (M : am_M), rc 1 r0 x1 x2 x3 x4 M = some res → AW u_Sharing_fits R_Sharing_fits 0 0 68 [(0, .ref r0), (1, .int x1), (2, .int x2), (3, .int x3), (4, .int x4)] [] M (fun r M2 => r = .inl (some (.int res)) ∧ M2 = M)) (ih_2 : ∀ (r0 : Nat) (x1 : Int32) (x2 : Int32) (x3 : Int32) (x4 : Int32) (M : am_M), rc 2 r0 x1 x2 x3 x4 M = some res → AW u_Sharing_fits R_Sharing_fits 0 0 110 [] [] M (fun r M2 => r = .inl (some (.int res)) ∧ M2 = M)) : ∀ (r0 : Nat) (x1 : Int32) (x2 : Int32) (x3 : Int32) (x4 : Int32) (M : am_M), a_Sharing_fits_0 rc r0 x1 x2 x3 x4 M = some res → AW u_Sharing_fits R_Sharing_fits 0 0 20 [(0, .ref r0), (1, .int x1), (2, .int x2), (3, .int x3), (4, .int x4)] [] M (fun r M2 => r = .inl (some (.int res)) ∧ M2 = M) := by
  intro r0 x1 x2 x3 x4 M h
  unfold a_Sharing_fits_0 at h
  refine aw_iload d_Sharing_fits_20 rfl ?_
  refine aw_aload_n d_Sharing_fits_22 rfl rfl ?_
  obtain ⟨t23, e_t23, h⟩ := q_bind h
  refine aw_gtr d_Sharing_fits_23 fl_Sharing_35 (Or.inl ⟨_, rfl⟩) e_t23 ?_
  obtain ⟨t26, e_t26, h⟩ := q_bind h
  refine aw_gti d_Sharing_fits_26 fl_Sharing_77 (Or.inl rfl) e_t26 ?_
  refine aw_icmp_ge (tgt := 74) d_Sharing_fits_29 (by decide) (fun hc => ?_) (fun hc => ?_)
  · rw [if_pos hc] at h
    refine aw_iload_n d_Sharing_fits_74 rfl rfl ?_
    refine aw_if_eq (tgt := 110) d_Sharing_fits_75 (by decide) (fun hc => ?_) (fun hc => ?_)
    · rw [if_pos hc] at h
      exact aw_pick [] rfl (ih_2 _ _ _ _ _ _ h)
    · rw [if_neg hc] at h
      refine aw_aload_n d_Sharing_fits_78 rfl rfl ?_
      obtain ⟨t79, e_t79, h⟩ := q_bind h
      refine aw_gtr d_Sharing_fits_79 fl_Sharing_27 (Or.inl ⟨_, rfl⟩) e_t79 ?_
      obtain ⟨t82, e_t82, h⟩ := q_bind h
      refine aw_gtr d_Sharing_fits_82 fl_Sharing_88 (Or.inr ⟨_, rfl⟩) e_t82 ?_
      refine aw_aload_n d_Sharing_fits_85 rfl rfl ?_
      obtain ⟨t86, e_t86, h⟩ := q_bind h
      refine aw_gtr d_Sharing_fits_86 fl_Sharing_15 (Or.inr ⟨_, rfl⟩) e_t86 ?_
      refine aw_iload_n d_Sharing_fits_89 rfl rfl ?_
      obtain ⟨t90, e_t90, h⟩ := q_bind h
      refine aw_ldi d_Sharing_fits_90 e_t90 ?_
      obtain ⟨t91, e_t91, h⟩ := q_bind h
      refine aw_ldr d_Sharing_fits_91 e_t91 ?_
      obtain ⟨t92, e_t92, h⟩ := q_bind h
      refine aw_gti d_Sharing_fits_92 fl_Sharing_145 (Or.inl rfl) e_t92 ?_
      refine aw_iload_n d_Sharing_fits_95 rfl rfl ?_
      refine aw_iadd d_Sharing_fits_96 ?_
      refine aw_aload_n d_Sharing_fits_97 rfl rfl ?_
      obtain ⟨t98, e_t98, h⟩ := q_bind h
      refine aw_gtr d_Sharing_fits_98 fl_Sharing_27 (Or.inl ⟨_, rfl⟩) e_t98 ?_
      obtain ⟨t101, e_t101, h⟩ := q_bind h
      refine aw_gtr d_Sharing_fits_101 fl_Sharing_113 (Or.inr ⟨_, rfl⟩) e_t101 ?_
      refine aw_bipush (v := 10) d_Sharing_fits_104 (by decide) ?_
      obtain ⟨t106, e_t106, h⟩ := q_bind h
      refine aw_ldi d_Sharing_fits_106 e_t106 ?_
      refine aw_icmp_gt (tgt := 114) d_Sharing_fits_107 (by decide) (fun hc => ?_) (fun hc => ?_)
      · rw [if_pos hc] at h
        refine aw_iconst (v := 0) d_Sharing_fits_114 (by decide) ?_
        cases h
        exact aw_zreturn d_Sharing_fits_115 rfl (by decide) (Nat.le_of_ble_eq_true rfl) (Nat.le_of_ble_eq_true rfl) ⟨rfl, rfl⟩
      · rw [if_neg hc] at h
        exact aw_pick [] rfl (ih_2 _ _ _ _ _ _ h)
  · rw [if_neg hc] at h
    refine aw_iload_n d_Sharing_fits_32 rfl rfl ?_
    refine aw_iload d_Sharing_fits_33 rfl ?_
    obtain ⟨t35, e_t35, h⟩ := q_bind h
    refine aw_cS (v := (some (.int t35))) (As := [.int x4]) (rest := [.int x2]) (st' := [.int t35, .int x2]) d_Sharing_fits_35 kS_Sharing_56 ⟨Nat.le_of_ble_eq_true rfl, Nat.le_of_ble_eq_true rfl, Nat.le_of_ble_eq_true rfl, Nat.le_of_ble_eq_true rfl⟩ rfl rfl (Nat.le_of_ble_eq_true rfl) rfl (mt_Sharing_bitOf e_t35) ?_
    refine aw_iand d_Sharing_fits_38 ?_
    refine aw_if_eq (tgt := 68) d_Sharing_fits_39 (by decide) (fun hc => ?_) (fun hc => ?_)
    · rw [if_pos hc] at h
      exact aw_pick [0, 1, 2, 3, 4] rfl (ih_1 _ _ _ _ _ _ h)
    · rw [if_neg hc] at h
      refine aw_iload_n d_Sharing_fits_42 rfl rfl ?_
      refine aw_aload_n d_Sharing_fits_43 rfl rfl ?_
      obtain ⟨t44, e_t44, h⟩ := q_bind h
      refine aw_gtr d_Sharing_fits_44 fl_Sharing_24 (Or.inr ⟨_, rfl⟩) e_t44 ?_
      refine aw_iload d_Sharing_fits_47 rfl ?_
      obtain ⟨t49, e_t49, h⟩ := q_bind h
      refine aw_ldi d_Sharing_fits_49 e_t49 ?_
      refine aw_iand d_Sharing_fits_50 ?_
      refine aw_if_eq (tgt := 56) d_Sharing_fits_51 (by decide) (fun hc => ?_) (fun hc => ?_)
      · rw [if_pos hc] at h
        refine aw_iload_n d_Sharing_fits_56 rfl rfl ?_
        refine aw_aload_n d_Sharing_fits_57 rfl rfl ?_
        refine aw_iload d_Sharing_fits_58 rfl ?_
        obtain ⟨o60, e_o60, h⟩ := q_bind h
        obtain ⟨t60, e_t60, h⟩ := q_bind h
        refine aw_cV (v := (some (.ref t60))) (As := [.int x4]) (rest := [.int x3]) (st' := [.ref t60, .int x3]) d_Sharing_fits_60 kV_Sharing_103 (q_ob_spec e_o60).1 (q_ob_spec e_o60).2 ⟨Nat.le_of_ble_eq_true rfl, Nat.le_of_ble_eq_true rfl, Nat.le_of_ble_eq_true rfl, Nat.le_of_ble_eq_true rfl⟩ rfl rfl (Nat.le_of_ble_eq_true rfl) rfl (mt_Sharing_workAt e_t60) ?_
        obtain ⟨t63, e_t63, h⟩ := q_bind h
        refine aw_gti d_Sharing_fits_63 fl_Sharing_142 (Or.inl rfl) e_t63 ?_
        refine aw_iadd d_Sharing_fits_66 ?_
        refine aw_istore_n (ls' := [(3, .int _), (0, .ref _), (1, .int _), (2, .int _), (4, .int _)]) d_Sharing_fits_67 rfl (Nat.le_of_ble_eq_true rfl) rfl ?_
        exact aw_pick [1, 2, 3, 0, 4] rfl (ih_1 _ _ _ _ _ _ h)
      · rw [if_neg hc] at h
        refine aw_iconst (v := 0) d_Sharing_fits_54 (by decide) ?_
        cases h
        exact aw_zreturn d_Sharing_fits_55 rfl (by decide) (Nat.le_of_ble_eq_true rfl) (Nat.le_of_ble_eq_true rfl) ⟨rfl, rfl⟩
set_option maxHeartbeats 4000000 in
theorem s_Sharing_fits_1 {rc : Nat → Nat → Int32 → Int32 → Int32 → Int32 → am_M → Option (Int32)} {res : Int32} (ih_0 : ∀ (r0 : Nat) (x1 : Int32) (x2 : Int32) (x3 : Int32) (x4 : Int32) (M : am_M), rc 0 r0 x1 x2 x3 x4 M = some res → AW u_Sharing_fits R_Sharing_fits 0 0 20 [(0, .ref r0), (1, .int x1), (2, .int x2), (3, .int x3), (4, .int x4)] [] M (fun r M2 => r = .inl (some (.int res)) ∧ M2 = M)) (ih_1 : ∀ (r0 : Nat) (x1 : Int32) (x2 : Int32) (x3 : Int32) (x4 : Int32) (M : am_M), rc 1 r0 x1 x2 x3 x4 M = some res → AW u_Sharing_fits R_Sharing_fits 0 0 68 [(0, .ref r0), (1, .int x1), (2, .int x2), (3, .int x3), (4, .int x4)] [] M (fun r M2 => r = .inl (some (.int res)) ∧ M2 = M)) (ih_2 : ∀ (r0 : Nat) (x1 : Int32) (x2 : Int32) (x3 : Int32) (x4 : Int32) (M : am_M), rc 2 r0 x1 x2 x3 x4 M = some res → AW u_Sharing_fits R_Sharing_fits 0 0 110 [] [] M (fun r M2 => r = .inl (some (.int res)) ∧ M2 = M)) : ∀ (r0 : Nat) (x1 : Int32) (x2 : Int32) (x3 : Int32) (x4 : Int32) (M : am_M), a_Sharing_fits_1 rc r0 x1 x2 x3 x4 M = some res → AW u_Sharing_fits R_Sharing_fits 0 0 68 [(0, .ref r0), (1, .int x1), (2, .int x2), (3, .int x3), (4, .int x4)] [] M (fun r M2 => r = .inl (some (.int res)) ∧ M2 = M) := by
  intro r0 x1 x2 x3 x4 M h
  unfold a_Sharing_fits_1 at h
  refine aw_iinc (v := (x4 + (1 : Int32))) (ls' := [(4, .int _), (0, .ref _), (1, .int _), (2, .int _), (3, .int _)]) d_Sharing_fits_68 rfl rfl (Nat.le_of_ble_eq_true rfl) rfl ?_
  refine aw_goto (tgt := 20) d_Sharing_fits_71 (by decide) ?_
  exact aw_pick [1, 2, 3, 4, 0] rfl (ih_0 _ _ _ _ _ _ h)
set_option maxHeartbeats 4000000 in
theorem s_Sharing_fits_2 {rc : Nat → Nat → Int32 → Int32 → Int32 → Int32 → am_M → Option (Int32)} {res : Int32} (ih_0 : ∀ (r0 : Nat) (x1 : Int32) (x2 : Int32) (x3 : Int32) (x4 : Int32) (M : am_M), rc 0 r0 x1 x2 x3 x4 M = some res → AW u_Sharing_fits R_Sharing_fits 0 0 20 [(0, .ref r0), (1, .int x1), (2, .int x2), (3, .int x3), (4, .int x4)] [] M (fun r M2 => r = .inl (some (.int res)) ∧ M2 = M)) (ih_1 : ∀ (r0 : Nat) (x1 : Int32) (x2 : Int32) (x3 : Int32) (x4 : Int32) (M : am_M), rc 1 r0 x1 x2 x3 x4 M = some res → AW u_Sharing_fits R_Sharing_fits 0 0 68 [(0, .ref r0), (1, .int x1), (2, .int x2), (3, .int x3), (4, .int x4)] [] M (fun r M2 => r = .inl (some (.int res)) ∧ M2 = M)) (ih_2 : ∀ (r0 : Nat) (x1 : Int32) (x2 : Int32) (x3 : Int32) (x4 : Int32) (M : am_M), rc 2 r0 x1 x2 x3 x4 M = some res → AW u_Sharing_fits R_Sharing_fits 0 0 110 [] [] M (fun r M2 => r = .inl (some (.int res)) ∧ M2 = M)) : ∀ (r0 : Nat) (x1 : Int32) (x2 : Int32) (x3 : Int32) (x4 : Int32) (M : am_M), a_Sharing_fits_2 rc r0 x1 x2 x3 x4 M = some res → AW u_Sharing_fits R_Sharing_fits 0 0 110 [] [] M (fun r M2 => r = .inl (some (.int res)) ∧ M2 = M) := by
  intro r0 x1 x2 x3 x4 M h
  unfold a_Sharing_fits_2 at h
  refine aw_iconst (v := 1) d_Sharing_fits_110 (by decide) ?_
  refine aw_goto (tgt := 115) d_Sharing_fits_111 (by decide) ?_
  cases h
  exact aw_zreturn d_Sharing_fits_115 rfl (by decide) (Nat.le_of_ble_eq_true rfl) (Nat.le_of_ble_eq_true rfl) ⟨rfl, rfl⟩
theorem l_Sharing_fits {res : Int32} : ∀ F : Nat, (∀ (r0 : Nat) (x1 : Int32) (x2 : Int32) (x3 : Int32) (x4 : Int32) (M : am_M), g_Sharing_fits F 0 r0 x1 x2 x3 x4 M = some res → AW u_Sharing_fits R_Sharing_fits 0 0 20 [(0, .ref r0), (1, .int x1), (2, .int x2), (3, .int x3), (4, .int x4)] [] M (fun r M2 => r = .inl (some (.int res)) ∧ M2 = M)) ∧ (∀ (r0 : Nat) (x1 : Int32) (x2 : Int32) (x3 : Int32) (x4 : Int32) (M : am_M), g_Sharing_fits F 1 r0 x1 x2 x3 x4 M = some res → AW u_Sharing_fits R_Sharing_fits 0 0 68 [(0, .ref r0), (1, .int x1), (2, .int x2), (3, .int x3), (4, .int x4)] [] M (fun r M2 => r = .inl (some (.int res)) ∧ M2 = M)) ∧ (∀ (r0 : Nat) (x1 : Int32) (x2 : Int32) (x3 : Int32) (x4 : Int32) (M : am_M), g_Sharing_fits F 2 r0 x1 x2 x3 x4 M = some res → AW u_Sharing_fits R_Sharing_fits 0 0 110 [] [] M (fun r M2 => r = .inl (some (.int res)) ∧ M2 = M)) := by
  intro F
  induction F with
  | zero => exact ⟨fun _ _ _ _ _ _  h => (by cases h), fun _ _ _ _ _ _  h => (by cases h), fun _ _ _ _ _ _  h => (by cases h)⟩
  | succ F ih =>
    obtain ⟨ih0, ih1, ih2⟩ := ih
    exact ⟨s_Sharing_fits_0 ih0 ih1 ih2, s_Sharing_fits_1 ih0 ih1 ih2, s_Sharing_fits_2 ih0 ih1 ih2⟩
set_option maxHeartbeats 4000000 in
theorem mt_Sharing_fits {M : am_M} {a0 : Nat} {a1 : Int32} {a2 : Int32} {res : Int32} (h : f_Sharing_fits M a0 a1 a2 = some res) : AMet y_Sharing_fits u_Sharing_fits R_Sharing_fits [.ref a0, .int a1, .int a2] M (fun r M2 => r = .inl (some (.int res)) ∧ M2 = M) := by
  refine am_met (by decide +kernel) w_Sharing_fits rfl rfl (Nat.le_of_ble_eq_true rfl) ?_
  show AW u_Sharing_fits R_Sharing_fits 0 0 0 [(0, .ref a0), (1, .int a1), (2, .int a2)] [] M (fun r M2 => r = .inl (some (.int res)) ∧ M2 = M)
  have ih_0 := (l_Sharing_fits (res := res) 1000000000).1
  have ih_1 := (l_Sharing_fits (res := res) 1000000000).2.1
  have ih_2 := (l_Sharing_fits (res := res) 1000000000).2.2
  unfold f_Sharing_fits at h
  unfold e_Sharing_fits at h
  generalize g_Sharing_fits 1000000000 = rc at h ih_0 ih_1 ih_2
  refine aw_iload_n d_Sharing_fits_0 rfl rfl ?_
  refine aw_aload_n d_Sharing_fits_1 rfl rfl ?_
  obtain ⟨t2, e_t2, h⟩ := q_bind h
  refine aw_gtr d_Sharing_fits_2 fl_Sharing_18 (Or.inr ⟨_, rfl⟩) e_t2 ?_
  refine aw_iload_n d_Sharing_fits_5 rfl rfl ?_
  obtain ⟨t6, e_t6, h⟩ := q_bind h
  refine aw_ldi d_Sharing_fits_6 e_t6 ?_
  refine aw_iconst (v := -1) d_Sharing_fits_7 (by decide) ?_
  refine aw_ixor d_Sharing_fits_8 ?_
  refine aw_iand d_Sharing_fits_9 ?_
  refine aw_if_eq (tgt := 15) d_Sharing_fits_10 (by decide) (fun hc => ?_) (fun hc => ?_)
  · rw [if_pos hc] at h
    refine aw_iconst (v := 0) d_Sharing_fits_15 (by decide) ?_
    refine aw_istore_n (ls' := [(3, .int _), (0, .ref _), (1, .int _), (2, .int _)]) d_Sharing_fits_16 rfl (Nat.le_of_ble_eq_true rfl) rfl ?_
    refine aw_iconst (v := 0) d_Sharing_fits_17 (by decide) ?_
    refine aw_istore (ls' := [(4, .int _), (3, .int _), (0, .ref _), (1, .int _), (2, .int _)]) d_Sharing_fits_18 (Nat.le_of_ble_eq_true rfl) rfl ?_
    exact aw_pick [2, 3, 4, 1, 0] rfl (ih_0 _ _ _ _ _ _ h)
  · rw [if_neg hc] at h
    refine aw_iconst (v := 0) d_Sharing_fits_13 (by decide) ?_
    cases h
    exact aw_zreturn d_Sharing_fits_14 rfl (by decide) (Nat.le_of_ble_eq_true rfl) (Nat.le_of_ble_eq_true rfl) ⟨rfl, rfl⟩
def y_Trip_put : MethodName := ⟨"CrewOffice$Trip", "put", "(II)V"⟩
def u_Trip_put : am_U := ("CrewOffice$Trip", "put", prog_9_method_2_code, 3, none, [])
def R_Trip_put : Room := { frames := 0, cells := 0, slots := 0, locals := 0 }
theorem d_Trip_put_0 : decode u_Trip_put.2.2.1 0 = .ok (.iconst 0, 1) := by decide +kernel
theorem d_Trip_put_1 : decode u_Trip_put.2.2.1 1 = .ok (.iload_n 1, 1) := by decide +kernel
theorem d_Trip_put_2 : decode u_Trip_put.2.2.1 2 = .ok (.if_icmp .gt 29, 3) := by decide +kernel
theorem d_Trip_put_5 : decode u_Trip_put.2.2.1 5 = .ok (.iload_n 1, 1) := by decide +kernel
theorem d_Trip_put_6 : decode u_Trip_put.2.2.1 6 = .ok (.bipush 8, 2) := by decide +kernel
theorem d_Trip_put_8 : decode u_Trip_put.2.2.1 8 = .ok (.if_icmp .ge 23, 3) := by decide +kernel
theorem d_Trip_put_11 : decode u_Trip_put.2.2.1 11 = .ok (.aload_n 0, 1) := by decide +kernel
theorem d_Trip_put_12 : decode u_Trip_put.2.2.1 12 = .ok (.getfield 12, 3) := by decide +kernel
theorem d_Trip_put_15 : decode u_Trip_put.2.2.1 15 = .ok (.getfield 32, 3) := by decide +kernel
theorem d_Trip_put_18 : decode u_Trip_put.2.2.1 18 = .ok (.iload_n 1, 1) := by decide +kernel
theorem d_Trip_put_19 : decode u_Trip_put.2.2.1 19 = .ok (.iload_n 2, 1) := by decide +kernel
theorem d_Trip_put_20 : decode u_Trip_put.2.2.1 20 = .ok (.iastore, 1) := by decide +kernel
theorem d_Trip_put_21 : decode u_Trip_put.2.2.1 21 = .ok (.aload_n 0, 1) := by decide +kernel
theorem d_Trip_put_22 : decode u_Trip_put.2.2.1 22 = .ok (.getfield 12, 3) := by decide +kernel
theorem d_Trip_put_25 : decode u_Trip_put.2.2.1 25 = .ok (.iload_n 1, 1) := by decide +kernel
theorem d_Trip_put_26 : decode u_Trip_put.2.2.1 26 = .ok (.iconst 1, 1) := by decide +kernel
theorem d_Trip_put_27 : decode u_Trip_put.2.2.1 27 = .ok (.iadd, 1) := by decide +kernel
theorem d_Trip_put_28 : decode u_Trip_put.2.2.1 28 = .ok (.putfield 35, 3) := by decide +kernel
theorem d_Trip_put_31 : decode u_Trip_put.2.2.1 31 = .ok (.return_, 1) := by decide +kernel
theorem w_Trip_put : am_code y_Trip_put u_Trip_put ∈ am_ws := am_mem (List.mem_of_getElem? (i := 493) (by decide +kernel)) rfl
def e_Trip_put (M : am_M) (a0 : Nat) (a1 : Int32) (a2 : Int32) : Option (Unit × am_M) := if a1 < (0 : Int32) then (some ((), M)) else (if (8 : Int32) ≤ a1 then (some ((), M)) else ((q_gtr M a0 5 1).bind (fun t12 => (q_gtr M t12 4 0).bind (fun t15 => (q_sti M t15 a1 a2).bind (fun M20 => (q_gtr M20 a0 5 1).bind (fun t22 => (q_pti M20 t22 4 1 (a1 + (1 : Int32))).bind (fun M28 => some ((), M28))))))))
def f_Trip_put (M : am_M) (a0 : Nat) (a1 : Int32) (a2 : Int32) : Option (Unit × am_M) := e_Trip_put M a0 a1 a2
theorem fl_Trip_12 : am_fl "CrewOffice$Trip" 12 5 1 := ⟨by decide, by decide, List.mem_of_getElem? (i := 312) (by decide +kernel)⟩
theorem fl_Trip_32 : am_fl "CrewOffice$Trip" 32 4 0 := ⟨by decide, by decide, List.mem_of_getElem? (i := 261) (by decide +kernel)⟩
theorem fl_Trip_35 : am_fl "CrewOffice$Trip" 35 4 1 := ⟨by decide, by decide, List.mem_of_getElem? (i := 265) (by decide +kernel)⟩
set_option maxHeartbeats 4000000 in
theorem mt_Trip_put {M : am_M} {a0 : Nat} {a1 : Int32} {a2 : Int32} {res : Unit} {M' : am_M} (h : f_Trip_put M a0 a1 a2 = some (res, M')) : AMet y_Trip_put u_Trip_put R_Trip_put [.ref a0, .int a1, .int a2] M (fun r M2 => r = .inl none ∧ M2 = M') := by
  refine am_met (by decide +kernel) w_Trip_put rfl rfl (Nat.le_of_ble_eq_true rfl) ?_
  show AW u_Trip_put R_Trip_put 0 0 0 [(0, .ref a0), (1, .int a1), (2, .int a2)] [] M (fun r M2 => r = .inl none ∧ M2 = M')
  unfold f_Trip_put at h
  unfold e_Trip_put at h
  refine aw_iconst (v := 0) d_Trip_put_0 (by decide) ?_
  refine aw_iload_n d_Trip_put_1 rfl rfl ?_
  refine aw_icmp_gt (tgt := 31) d_Trip_put_2 (by decide) (fun hc => ?_) (fun hc => ?_)
  · rw [if_pos hc] at h
    cases h
    exact aw_vreturn d_Trip_put_31 rfl (Nat.le_of_ble_eq_true rfl) (Nat.le_of_ble_eq_true rfl) ⟨rfl, rfl⟩
  · rw [if_neg hc] at h
    refine aw_iload_n d_Trip_put_5 rfl rfl ?_
    refine aw_bipush (v := 8) d_Trip_put_6 (by decide) ?_
    refine aw_icmp_ge (tgt := 31) d_Trip_put_8 (by decide) (fun hc => ?_) (fun hc => ?_)
    · rw [if_pos hc] at h
      cases h
      exact aw_vreturn d_Trip_put_31 rfl (Nat.le_of_ble_eq_true rfl) (Nat.le_of_ble_eq_true rfl) ⟨rfl, rfl⟩
    · rw [if_neg hc] at h
      refine aw_aload_n d_Trip_put_11 rfl rfl ?_
      obtain ⟨t12, e_t12, h⟩ := q_bind h
      refine aw_gtr d_Trip_put_12 fl_Trip_12 (Or.inl ⟨_, rfl⟩) e_t12 ?_
      obtain ⟨t15, e_t15, h⟩ := q_bind h
      refine aw_gtr d_Trip_put_15 fl_Trip_32 (Or.inr ⟨_, rfl⟩) e_t15 ?_
      refine aw_iload_n d_Trip_put_18 rfl rfl ?_
      refine aw_iload_n d_Trip_put_19 rfl rfl ?_
      obtain ⟨M20, e_M20, h⟩ := q_bind h
      refine aw_sti d_Trip_put_20 e_M20 ?_
      refine aw_aload_n d_Trip_put_21 rfl rfl ?_
      obtain ⟨t22, e_t22, h⟩ := q_bind h
      refine aw_gtr d_Trip_put_22 fl_Trip_12 (Or.inl ⟨_, rfl⟩) e_t22 ?_
      refine aw_iload_n d_Trip_put_25 rfl rfl ?_
      refine aw_iconst (v := 1) d_Trip_put_26 (by decide) ?_
      refine aw_iadd d_Trip_put_27 ?_
      obtain ⟨M28, e_M28, h⟩ := q_bind h
      refine aw_pti d_Trip_put_28 fl_Trip_35 rfl rfl e_M28 ?_
      cases h
      exact aw_vreturn d_Trip_put_31 rfl (Nat.le_of_ble_eq_true rfl) (Nat.le_of_ble_eq_true rfl) ⟨rfl, rfl⟩
def y_Trip_canBeMeasured : MethodName := ⟨"CrewOffice$Trip", "canBeMeasured", "()Z"⟩
def u_Trip_canBeMeasured : am_U := ("CrewOffice$Trip", "canBeMeasured", prog_9_method_3_code, 2, (some .boolean), [])
def R_Trip_canBeMeasured : Room := { frames := 0, cells := 0, slots := 0, locals := 0 }
theorem d_Trip_canBeMeasured_0 : decode u_Trip_canBeMeasured.2.2.1 0 = .ok (.iconst 0, 1) := by decide +kernel
theorem d_Trip_canBeMeasured_1 : decode u_Trip_canBeMeasured.2.2.1 1 = .ok (.istore_n 1, 1) := by decide +kernel
theorem d_Trip_canBeMeasured_2 : decode u_Trip_canBeMeasured.2.2.1 2 = .ok (.iload_n 1, 1) := by decide +kernel
theorem d_Trip_canBeMeasured_3 : decode u_Trip_canBeMeasured.2.2.1 3 = .ok (.aload_n 0, 1) := by decide +kernel
theorem d_Trip_canBeMeasured_4 : decode u_Trip_canBeMeasured.2.2.1 4 = .ok (.getfield 12, 3) := by decide +kernel
theorem d_Trip_canBeMeasured_7 : decode u_Trip_canBeMeasured.2.2.1 7 = .ok (.getfield 35, 3) := by decide +kernel
theorem d_Trip_canBeMeasured_10 : decode u_Trip_canBeMeasured.2.2.1 10 = .ok (.if_icmp .ge 34, 3) := by decide +kernel
theorem d_Trip_canBeMeasured_13 : decode u_Trip_canBeMeasured.2.2.1 13 = .ok (.aload_n 0, 1) := by decide +kernel
theorem d_Trip_canBeMeasured_14 : decode u_Trip_canBeMeasured.2.2.1 14 = .ok (.getfield 28, 3) := by decide +kernel
theorem d_Trip_canBeMeasured_17 : decode u_Trip_canBeMeasured.2.2.1 17 = .ok (.getfield 39, 3) := by decide +kernel
theorem d_Trip_canBeMeasured_20 : decode u_Trip_canBeMeasured.2.2.1 20 = .ok (.aload_n 0, 1) := by decide +kernel
theorem d_Trip_canBeMeasured_21 : decode u_Trip_canBeMeasured.2.2.1 21 = .ok (.getfield 12, 3) := by decide +kernel
theorem d_Trip_canBeMeasured_24 : decode u_Trip_canBeMeasured.2.2.1 24 = .ok (.getfield 32, 3) := by decide +kernel
theorem d_Trip_canBeMeasured_27 : decode u_Trip_canBeMeasured.2.2.1 27 = .ok (.iload_n 1, 1) := by decide +kernel
theorem d_Trip_canBeMeasured_28 : decode u_Trip_canBeMeasured.2.2.1 28 = .ok (.iaload, 1) := by decide +kernel
theorem d_Trip_canBeMeasured_29 : decode u_Trip_canBeMeasured.2.2.1 29 = .ok (.aaload, 1) := by decide +kernel
theorem d_Trip_canBeMeasured_30 : decode u_Trip_canBeMeasured.2.2.1 30 = .ok (.getfield 45, 3) := by decide +kernel
theorem d_Trip_canBeMeasured_33 : decode u_Trip_canBeMeasured.2.2.1 33 = .ok (.ifCond .ne 5, 3) := by decide +kernel
theorem d_Trip_canBeMeasured_36 : decode u_Trip_canBeMeasured.2.2.1 36 = .ok (.iconst 0, 1) := by decide +kernel
theorem d_Trip_canBeMeasured_37 : decode u_Trip_canBeMeasured.2.2.1 37 = .ok (.ireturn, 1) := by decide +kernel
theorem d_Trip_canBeMeasured_38 : decode u_Trip_canBeMeasured.2.2.1 38 = .ok (.iinc 1 1, 3) := by decide +kernel
theorem d_Trip_canBeMeasured_41 : decode u_Trip_canBeMeasured.2.2.1 41 = .ok (.goto (-39), 3) := by decide +kernel
theorem d_Trip_canBeMeasured_44 : decode u_Trip_canBeMeasured.2.2.1 44 = .ok (.aload_n 0, 1) := by decide +kernel
theorem d_Trip_canBeMeasured_45 : decode u_Trip_canBeMeasured.2.2.1 45 = .ok (.getfield 12, 3) := by decide +kernel
theorem d_Trip_canBeMeasured_48 : decode u_Trip_canBeMeasured.2.2.1 48 = .ok (.getfield 35, 3) := by decide +kernel
theorem d_Trip_canBeMeasured_51 : decode u_Trip_canBeMeasured.2.2.1 51 = .ok (.ifCond .le 7, 3) := by decide +kernel
theorem d_Trip_canBeMeasured_54 : decode u_Trip_canBeMeasured.2.2.1 54 = .ok (.iconst 1, 1) := by decide +kernel
theorem d_Trip_canBeMeasured_55 : decode u_Trip_canBeMeasured.2.2.1 55 = .ok (.goto 4, 3) := by decide +kernel
theorem d_Trip_canBeMeasured_58 : decode u_Trip_canBeMeasured.2.2.1 58 = .ok (.iconst 0, 1) := by decide +kernel
theorem d_Trip_canBeMeasured_59 : decode u_Trip_canBeMeasured.2.2.1 59 = .ok (.ireturn, 1) := by decide +kernel
theorem w_Trip_canBeMeasured : am_code y_Trip_canBeMeasured u_Trip_canBeMeasured ∈ am_ws := am_mem (List.mem_of_getElem? (i := 836) (by decide +kernel)) rfl
def a_Trip_canBeMeasured_0 (rc : Nat → Nat → Int32 → am_M → Option (Int32)) (r0 : Nat) (x1 : Int32) (M : am_M) : Option (Int32) := (q_gtr M r0 5 1).bind (fun t4 => (q_gti M t4 4 1).bind (fun t7 => if t7 ≤ x1 then ((q_gtr M r0 5 1).bind (fun t45 => (q_gti M t45 4 1).bind (fun t48 => if t48 ≤ 0 then (some (0 : Int32)) else (some (1 : Int32))))) else ((q_gtr M r0 5 0).bind (fun t14 => (q_gtr M t14 3 1).bind (fun t17 => (q_gtr M r0 5 1).bind (fun t21 => (q_gtr M t21 4 0).bind (fun t24 => (q_ldi M t24 x1).bind (fun t28 => (q_ldr M t17 t28).bind (fun t29 => (q_gti M t29 1 0).bind (fun t30 => if t30 = 0 then (some (0 : Int32)) else (rc 0 r0 (x1 + (1 : Int32)) M)))))))))))
def g_Trip_canBeMeasured : Nat → Nat → Nat → Int32 → am_M → Option (Int32)
  | 0, _, _, _, _ => none
  | F + 1, 0, r0, x1, M => a_Trip_canBeMeasured_0 (g_Trip_canBeMeasured F) r0 x1 M
  | _ + 1, _ + 1, _, _, _ => none
def e_Trip_canBeMeasured (rc : Nat → Nat → Int32 → am_M → Option (Int32)) (M : am_M) (a0 : Nat) : Option (Int32) := rc 0 a0 (0 : Int32) M
def f_Trip_canBeMeasured (M : am_M) (a0 : Nat) : Option (Int32) := e_Trip_canBeMeasured (g_Trip_canBeMeasured 1000000000) M a0
theorem fl_Trip_28 : am_fl "CrewOffice$Trip" 28 5 0 := ⟨by decide, by decide, List.mem_of_getElem? (i := 311) (by decide +kernel)⟩
theorem fl_Trip_39 : am_fl "CrewOffice$Trip" 39 3 1 := ⟨by decide, by decide, List.mem_of_getElem? (i := 221) (by decide +kernel)⟩
theorem fl_Trip_45 : am_fl "CrewOffice$Trip" 45 1 0 := ⟨by decide, by decide, List.mem_of_getElem? (i := 129) (by decide +kernel)⟩
set_option maxHeartbeats 4000000 in
theorem s_Trip_canBeMeasured_0 {rc : Nat → Nat → Int32 → am_M → Option (Int32)} {res : Int32} (ih_0 : ∀ (r0 : Nat) (x1 : Int32) (M : am_M), rc 0 r0 x1 M = some res → AW u_Trip_canBeMeasured R_Trip_canBeMeasured 0 0 2 [(0, .ref r0), (1, .int x1)] [] M (fun r M2 => r = .inl (some (.int res)) ∧ M2 = M)) : ∀ (r0 : Nat) (x1 : Int32) (M : am_M), a_Trip_canBeMeasured_0 rc r0 x1 M = some res → AW u_Trip_canBeMeasured R_Trip_canBeMeasured 0 0 2 [(0, .ref r0), (1, .int x1)] [] M (fun r M2 => r = .inl (some (.int res)) ∧ M2 = M) := by
  intro r0 x1 M h
  unfold a_Trip_canBeMeasured_0 at h
  refine aw_iload_n d_Trip_canBeMeasured_2 rfl rfl ?_
  refine aw_aload_n d_Trip_canBeMeasured_3 rfl rfl ?_
  obtain ⟨t4, e_t4, h⟩ := q_bind h
  refine aw_gtr d_Trip_canBeMeasured_4 fl_Trip_12 (Or.inl ⟨_, rfl⟩) e_t4 ?_
  obtain ⟨t7, e_t7, h⟩ := q_bind h
  refine aw_gti d_Trip_canBeMeasured_7 fl_Trip_35 (Or.inl rfl) e_t7 ?_
  refine aw_icmp_ge (tgt := 44) d_Trip_canBeMeasured_10 (by decide) (fun hc => ?_) (fun hc => ?_)
  · rw [if_pos hc] at h
    refine aw_aload_n d_Trip_canBeMeasured_44 rfl rfl ?_
    obtain ⟨t45, e_t45, h⟩ := q_bind h
    refine aw_gtr d_Trip_canBeMeasured_45 fl_Trip_12 (Or.inl ⟨_, rfl⟩) e_t45 ?_
    obtain ⟨t48, e_t48, h⟩ := q_bind h
    refine aw_gti d_Trip_canBeMeasured_48 fl_Trip_35 (Or.inl rfl) e_t48 ?_
    refine aw_if_le (tgt := 58) d_Trip_canBeMeasured_51 (by decide) (fun hc => ?_) (fun hc => ?_)
    · rw [if_pos hc] at h
      refine aw_iconst (v := 0) d_Trip_canBeMeasured_58 (by decide) ?_
      cases h
      exact aw_zreturn d_Trip_canBeMeasured_59 rfl (by decide) (Nat.le_of_ble_eq_true rfl) (Nat.le_of_ble_eq_true rfl) ⟨rfl, rfl⟩
    · rw [if_neg hc] at h
      refine aw_iconst (v := 1) d_Trip_canBeMeasured_54 (by decide) ?_
      refine aw_goto (tgt := 59) d_Trip_canBeMeasured_55 (by decide) ?_
      cases h
      exact aw_zreturn d_Trip_canBeMeasured_59 rfl (by decide) (Nat.le_of_ble_eq_true rfl) (Nat.le_of_ble_eq_true rfl) ⟨rfl, rfl⟩
  · rw [if_neg hc] at h
    refine aw_aload_n d_Trip_canBeMeasured_13 rfl rfl ?_
    obtain ⟨t14, e_t14, h⟩ := q_bind h
    refine aw_gtr d_Trip_canBeMeasured_14 fl_Trip_28 (Or.inl ⟨_, rfl⟩) e_t14 ?_
    obtain ⟨t17, e_t17, h⟩ := q_bind h
    refine aw_gtr d_Trip_canBeMeasured_17 fl_Trip_39 (Or.inr ⟨_, rfl⟩) e_t17 ?_
    refine aw_aload_n d_Trip_canBeMeasured_20 rfl rfl ?_
    obtain ⟨t21, e_t21, h⟩ := q_bind h
    refine aw_gtr d_Trip_canBeMeasured_21 fl_Trip_12 (Or.inl ⟨_, rfl⟩) e_t21 ?_
    obtain ⟨t24, e_t24, h⟩ := q_bind h
    refine aw_gtr d_Trip_canBeMeasured_24 fl_Trip_32 (Or.inr ⟨_, rfl⟩) e_t24 ?_
    refine aw_iload_n d_Trip_canBeMeasured_27 rfl rfl ?_
    obtain ⟨t28, e_t28, h⟩ := q_bind h
    refine aw_ldi d_Trip_canBeMeasured_28 e_t28 ?_
    obtain ⟨t29, e_t29, h⟩ := q_bind h
    refine aw_ldr d_Trip_canBeMeasured_29 e_t29 ?_
    obtain ⟨t30, e_t30, h⟩ := q_bind h
    refine aw_gti d_Trip_canBeMeasured_30 fl_Trip_45 (Or.inr rfl) e_t30 ?_
    refine aw_if_ne (tgt := 38) d_Trip_canBeMeasured_33 (by decide) (fun hc => ?_) (fun hc => ?_)
    · rw [if_neg hc] at h
      refine aw_iinc (v := (x1 + (1 : Int32))) (ls' := [(1, .int _), (0, .ref _)]) d_Trip_canBeMeasured_38 rfl rfl (Nat.le_of_ble_eq_true rfl) rfl ?_
      refine aw_goto (tgt := 2) d_Trip_canBeMeasured_41 (by decide) ?_
      exact aw_pick [1, 0] rfl (ih_0 _ _ _ h)
    · rw [if_pos hc] at h
      refine aw_iconst (v := 0) d_Trip_canBeMeasured_36 (by decide) ?_
      cases h
      exact aw_zreturn d_Trip_canBeMeasured_37 rfl (by decide) (Nat.le_of_ble_eq_true rfl) (Nat.le_of_ble_eq_true rfl) ⟨rfl, rfl⟩
theorem l_Trip_canBeMeasured {res : Int32} : ∀ F : Nat, (∀ (r0 : Nat) (x1 : Int32) (M : am_M), g_Trip_canBeMeasured F 0 r0 x1 M = some res → AW u_Trip_canBeMeasured R_Trip_canBeMeasured 0 0 2 [(0, .ref r0), (1, .int x1)] [] M (fun r M2 => r = .inl (some (.int res)) ∧ M2 = M)) := by
  intro F
  induction F with
  | zero => exact fun _ _ _  h => (by cases h)
  | succ F ih =>
    have ih0 := ih
    exact s_Trip_canBeMeasured_0 ih0
set_option maxHeartbeats 4000000 in
theorem mt_Trip_canBeMeasured {M : am_M} {a0 : Nat} {res : Int32} (h : f_Trip_canBeMeasured M a0 = some res) : AMet y_Trip_canBeMeasured u_Trip_canBeMeasured R_Trip_canBeMeasured [.ref a0] M (fun r M2 => r = .inl (some (.int res)) ∧ M2 = M) := by
  refine am_met (by decide +kernel) w_Trip_canBeMeasured rfl rfl (Nat.le_of_ble_eq_true rfl) ?_
  show AW u_Trip_canBeMeasured R_Trip_canBeMeasured 0 0 0 [(0, .ref a0)] [] M (fun r M2 => r = .inl (some (.int res)) ∧ M2 = M)
  have ih_0 := (l_Trip_canBeMeasured (res := res) 1000000000)
  unfold f_Trip_canBeMeasured at h
  unfold e_Trip_canBeMeasured at h
  generalize g_Trip_canBeMeasured 1000000000 = rc at h ih_0
  refine aw_iconst (v := 0) d_Trip_canBeMeasured_0 (by decide) ?_
  refine aw_istore_n (ls' := [(1, .int _), (0, .ref _)]) d_Trip_canBeMeasured_1 rfl (Nat.le_of_ble_eq_true rfl) rfl ?_
  exact aw_pick [1, 0] rfl (ih_0 _ _ _ h)
def y_Trip_legAt : MethodName := ⟨"CrewOffice$Trip", "legAt", "(I)LCrewOffice$Leg;"⟩
def u_Trip_legAt : am_U := ("CrewOffice$Trip", "legAt", prog_9_method_4_code, 2, (some (.object "CrewOffice$Leg")), [])
def R_Trip_legAt : Room := { frames := 0, cells := 0, slots := 0, locals := 0 }
theorem d_Trip_legAt_0 : decode u_Trip_legAt.2.2.1 0 = .ok (.aload_n 0, 1) := by decide +kernel
theorem d_Trip_legAt_1 : decode u_Trip_legAt.2.2.1 1 = .ok (.getfield 28, 3) := by decide +kernel
theorem d_Trip_legAt_4 : decode u_Trip_legAt.2.2.1 4 = .ok (.getfield 39, 3) := by decide +kernel
theorem d_Trip_legAt_7 : decode u_Trip_legAt.2.2.1 7 = .ok (.aload_n 0, 1) := by decide +kernel
theorem d_Trip_legAt_8 : decode u_Trip_legAt.2.2.1 8 = .ok (.getfield 12, 3) := by decide +kernel
theorem d_Trip_legAt_11 : decode u_Trip_legAt.2.2.1 11 = .ok (.getfield 32, 3) := by decide +kernel
theorem d_Trip_legAt_14 : decode u_Trip_legAt.2.2.1 14 = .ok (.iload_n 1, 1) := by decide +kernel
theorem d_Trip_legAt_15 : decode u_Trip_legAt.2.2.1 15 = .ok (.iaload, 1) := by decide +kernel
theorem d_Trip_legAt_16 : decode u_Trip_legAt.2.2.1 16 = .ok (.aaload, 1) := by decide +kernel
theorem d_Trip_legAt_17 : decode u_Trip_legAt.2.2.1 17 = .ok (.areturn, 1) := by decide +kernel
theorem w_Trip_legAt : am_code y_Trip_legAt u_Trip_legAt ∈ am_ws := am_mem (List.mem_of_getElem? (i := 501) (by decide +kernel)) rfl
def e_Trip_legAt (M : am_M) (a0 : Nat) (a1 : Int32) : Option (Nat) := (q_gtr M a0 5 0).bind (fun t1 => (q_gtr M t1 3 1).bind (fun t4 => (q_gtr M a0 5 1).bind (fun t8 => (q_gtr M t8 4 0).bind (fun t11 => (q_ldi M t11 a1).bind (fun t15 => (q_ldr M t4 t15).bind (fun t16 => some t16))))))
def f_Trip_legAt (M : am_M) (a0 : Nat) (a1 : Int32) : Option (Nat) := e_Trip_legAt M a0 a1
set_option maxHeartbeats 4000000 in
theorem mt_Trip_legAt {M : am_M} {a0 : Nat} {a1 : Int32} {res : Nat} (h : f_Trip_legAt M a0 a1 = some res) : AMet y_Trip_legAt u_Trip_legAt R_Trip_legAt [.ref a0, .int a1] M (fun r M2 => r = .inl (some (.ref res)) ∧ M2 = M) := by
  refine am_met (by decide +kernel) w_Trip_legAt rfl rfl (Nat.le_of_ble_eq_true rfl) ?_
  show AW u_Trip_legAt R_Trip_legAt 0 0 0 [(0, .ref a0), (1, .int a1)] [] M (fun r M2 => r = .inl (some (.ref res)) ∧ M2 = M)
  unfold f_Trip_legAt at h
  unfold e_Trip_legAt at h
  refine aw_aload_n d_Trip_legAt_0 rfl rfl ?_
  obtain ⟨t1, e_t1, h⟩ := q_bind h
  refine aw_gtr d_Trip_legAt_1 fl_Trip_28 (Or.inl ⟨_, rfl⟩) e_t1 ?_
  obtain ⟨t4, e_t4, h⟩ := q_bind h
  refine aw_gtr d_Trip_legAt_4 fl_Trip_39 (Or.inr ⟨_, rfl⟩) e_t4 ?_
  refine aw_aload_n d_Trip_legAt_7 rfl rfl ?_
  obtain ⟨t8, e_t8, h⟩ := q_bind h
  refine aw_gtr d_Trip_legAt_8 fl_Trip_12 (Or.inl ⟨_, rfl⟩) e_t8 ?_
  obtain ⟨t11, e_t11, h⟩ := q_bind h
  refine aw_gtr d_Trip_legAt_11 fl_Trip_32 (Or.inr ⟨_, rfl⟩) e_t11 ?_
  refine aw_iload_n d_Trip_legAt_14 rfl rfl ?_
  obtain ⟨t15, e_t15, h⟩ := q_bind h
  refine aw_ldi d_Trip_legAt_15 e_t15 ?_
  obtain ⟨t16, e_t16, h⟩ := q_bind h
  refine aw_ldr d_Trip_legAt_16 e_t16 ?_
  cases h
  exact aw_areturn d_Trip_legAt_17 rfl (Nat.le_of_ble_eq_true rfl) (Nat.le_of_ble_eq_true rfl) ⟨rfl, rfl⟩
