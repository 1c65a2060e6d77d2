-- Work_arrivalsAt Integer_bitCount Math_floorMod Math_max Math_min Arrays_fill Office_chain Office_local Office_isListed Model_uncovers Model_judge
def y_Work_arrivalsAt : MethodName := ⟨"CrewOffice$Work", "arrivalsAt", "(ILCrewOffice$Plan;)I"⟩
def u_Work_arrivalsAt : am_U := ("CrewOffice$Work", "arrivalsAt", prog_10_method_5_code, 5, (some .int), [])
def R_Work_arrivalsAt : Room := { frames := 0, cells := 0, slots := 0, locals := 0 }
theorem d_Work_arrivalsAt_0 : decode u_Work_arrivalsAt.2.2.1 0 = .ok (.iconst 0, 1) := by decide +kernel
theorem d_Work_arrivalsAt_1 : decode u_Work_arrivalsAt.2.2.1 1 = .ok (.istore_n 3, 1) := by decide +kernel
theorem d_Work_arrivalsAt_2 : decode u_Work_arrivalsAt.2.2.1 2 = .ok (.iconst 0, 1) := by decide +kernel
theorem d_Work_arrivalsAt_3 : decode u_Work_arrivalsAt.2.2.1 3 = .ok (.istore 4, 2) := by decide +kernel
theorem d_Work_arrivalsAt_5 : decode u_Work_arrivalsAt.2.2.1 5 = .ok (.iload 4, 2) := by decide +kernel
theorem d_Work_arrivalsAt_7 : decode u_Work_arrivalsAt.2.2.1 7 = .ok (.aload_n 0, 1) := by decide +kernel
theorem d_Work_arrivalsAt_8 : decode u_Work_arrivalsAt.2.2.1 8 = .ok (.getfield 21, 3) := by decide +kernel
theorem d_Work_arrivalsAt_11 : decode u_Work_arrivalsAt.2.2.1 11 = .ok (.if_icmp .ge 36, 3) := by decide +kernel
theorem d_Work_arrivalsAt_14 : decode u_Work_arrivalsAt.2.2.1 14 = .ok (.iload_n 3, 1) := by decide +kernel
theorem d_Work_arrivalsAt_15 : decode u_Work_arrivalsAt.2.2.1 15 = .ok (.aload_n 2, 1) := by decide +kernel
theorem d_Work_arrivalsAt_16 : decode u_Work_arrivalsAt.2.2.1 16 = .ok (.getfield 43, 3) := by decide +kernel
theorem d_Work_arrivalsAt_19 : decode u_Work_arrivalsAt.2.2.1 19 = .ok (.aload_n 0, 1) := by decide +kernel
theorem d_Work_arrivalsAt_20 : decode u_Work_arrivalsAt.2.2.1 20 = .ok (.getfield 9, 3) := by decide +kernel
theorem d_Work_arrivalsAt_23 : decode u_Work_arrivalsAt.2.2.1 23 = .ok (.iload 4, 2) := by decide +kernel
theorem d_Work_arrivalsAt_25 : decode u_Work_arrivalsAt.2.2.1 25 = .ok (.iaload, 1) := by decide +kernel
theorem d_Work_arrivalsAt_26 : decode u_Work_arrivalsAt.2.2.1 26 = .ok (.aaload, 1) := by decide +kernel
theorem d_Work_arrivalsAt_27 : decode u_Work_arrivalsAt.2.2.1 27 = .ok (.getfield 49, 3) := by decide +kernel
theorem d_Work_arrivalsAt_30 : decode u_Work_arrivalsAt.2.2.1 30 = .ok (.iload_n 1, 1) := by decide +kernel
theorem d_Work_arrivalsAt_31 : decode u_Work_arrivalsAt.2.2.1 31 = .ok (.if_icmp .ne 7, 3) := by decide +kernel
theorem d_Work_arrivalsAt_34 : decode u_Work_arrivalsAt.2.2.1 34 = .ok (.iconst 1, 1) := by decide +kernel
theorem d_Work_arrivalsAt_35 : decode u_Work_arrivalsAt.2.2.1 35 = .ok (.goto 4, 3) := by decide +kernel
theorem d_Work_arrivalsAt_38 : decode u_Work_arrivalsAt.2.2.1 38 = .ok (.iconst 0, 1) := by decide +kernel
theorem d_Work_arrivalsAt_39 : decode u_Work_arrivalsAt.2.2.1 39 = .ok (.iadd, 1) := by decide +kernel
theorem d_Work_arrivalsAt_40 : decode u_Work_arrivalsAt.2.2.1 40 = .ok (.istore_n 3, 1) := by decide +kernel
theorem d_Work_arrivalsAt_41 : decode u_Work_arrivalsAt.2.2.1 41 = .ok (.iinc 4 1, 3) := by decide +kernel
theorem d_Work_arrivalsAt_44 : decode u_Work_arrivalsAt.2.2.1 44 = .ok (.goto (-39), 3) := by decide +kernel
theorem d_Work_arrivalsAt_47 : decode u_Work_arrivalsAt.2.2.1 47 = .ok (.iload_n 3, 1) := by decide +kernel
theorem d_Work_arrivalsAt_48 : decode u_Work_arrivalsAt.2.2.1 48 = .ok (.ireturn, 1) := by decide +kernel
theorem w_Work_arrivalsAt : am_code y_Work_arrivalsAt u_Work_arrivalsAt ∈ am_ws := am_mem (List.mem_of_getElem? (i := 945) (by decide +kernel)) rfl
def a_Work_arrivalsAt_0 (rc : Nat → Nat → Int32 → Nat → Int32 → Int32 → Int32 → Int32 → am_M → Option (Int32)) (r0 : Nat) (x1 : Int32) (r2 : Nat) (x3 : Int32) (x4 : Int32) (s0 : Int32) (s1 : Int32) (M : am_M) : Option (Int32) := (q_gti M r0 4 1).bind (fun t8 => if t8 ≤ x4 then (some x3) else ((q_gtr M r2 3 1).bind (fun t16 => (q_gtr M r0 4 0).bind (fun t20 => (q_ldi M t20 x4).bind (fun t25 => (q_ldr M t16 t25).bind (fun t26 => (q_gti M t26 1 2).bind (fun t27 => if t27 = x1 then (rc 1 r0 x1 r2 0 x4 (1 : Int32) x3 M) else (rc 1 r0 x1 r2 0 x4 (0 : Int32) x3 M))))))))
def a_Work_arrivalsAt_1 (rc : Nat → Nat → Int32 → Nat → Int32 → Int32 → Int32 → Int32 → am_M → Option (Int32)) (r0 : Nat) (x1 : Int32) (r2 : Nat) (x3 : Int32) (x4 : Int32) (s0 : Int32) (s1 : Int32) (M : am_M) : Option (Int32) := rc 0 r0 x1 r2 (s1 + s0) (x4 + (1 : Int32)) 0 0 M
def g_Work_arrivalsAt : Nat → Nat → Nat → Int32 → Nat → Int32 → Int32 → Int32 → Int32 → am_M → Option (Int32)
  | 0, _, _, _, _, _, _, _, _, _ => none
  | F + 1, 0, r0, x1, r2, x3, x4, s0, s1, M => a_Work_arrivalsAt_0 (g_Work_arrivalsAt F) r0 x1 r2 x3 x4 s0 s1 M
  | F + 1, 1, r0, x1, r2, x3, x4, s0, s1, M => a_Work_arrivalsAt_1 (g_Work_arrivalsAt F) r0 x1 r2 x3 x4 s0 s1 M
  | _ + 1, _ + 2, _, _, _, _, _, _, _, _ => none
def e_Work_arrivalsAt (rc : Nat → Nat → Int32 → Nat → Int32 → Int32 → Int32 → Int32 → am_M → Option (Int32)) (M : am_M) (a0 : Nat) (a1 : Int32) (a2 : Nat) : Option (Int32) := rc 0 a0 a1 a2 (0 : Int32) (0 : Int32) 0 0 M
def f_Work_arrivalsAt (M : am_M) (a0 : Nat) (a1 : Int32) (a2 : Nat) : Option (Int32) := e_Work_arrivalsAt (g_Work_arrivalsAt 1000000000) M a0 a1 a2
theorem fl_Work_43 : am_fl "CrewOffice$Work" 43 3 1 := ⟨by decide, by decide, List.mem_of_getElem? (i := 224) (by decide +kernel)⟩
theorem fl_Work_49 : am_fl "CrewOffice$Work" 49 1 2 := ⟨by decide, by decide, List.mem_of_getElem? (i := 138) (by decide +kernel)⟩
set_option maxHeartbeats 4000000 in
theorem s_Work_arrivalsAt_0 {rc : Nat → Nat → Int32 → Nat → Int32 → Int32 → Int32 → Int32 → am_M → Option (Int32)} {res : Int32} (ih_0 : ∀ (r0 : Nat) (x1 : Int32) (r2 : Nat) (x3 : Int32) (x4 : Int32) (s0 : Int32) (s1 : Int32) (M : am_M), rc 0 r0 x1 r2 x3 x4 s0 s1 M = some res → AW u_Work_arrivalsAt R_Work_arrivalsAt 0 0 5 [(0, .ref r0), (1, .int x1), (2, .ref r2), (3, .int x3), (4, .int x4)] [] M (fun r M2 => r = .inl (some (.int res)) ∧ M2 = M)) (ih_1 : ∀ (r0 : Nat) (x1 : Int32) (r2 : Nat) (x3 : Int32) (x4 : Int32) (s0 : Int32) (s1 : Int32) (M : am_M), rc 1 r0 x1 r2 x3 x4 s0 s1 M = some res → AW u_Work_arrivalsAt R_Work_arrivalsAt 0 0 39 [(0, .ref r0), (1, .int x1), (2, .ref r2), (4, .int x4)] [.int s0, .int s1] M (fun r M2 => r = .inl (some (.int res)) ∧ M2 = M)) : ∀ (r0 : Nat) (x1 : Int32) (r2 : Nat) (x3 : Int32) (x4 : Int32) (s0 : Int32) (s1 : Int32) (M : am_M), a_Work_arrivalsAt_0 rc r0 x1 r2 x3 x4 s0 s1 M = some res → AW u_Work_arrivalsAt R_Work_arrivalsAt 0 0 5 [(0, .ref r0), (1, .int x1), (2, .ref r2), (3, .int x3), (4, .int x4)] [] M (fun r M2 => r = .inl (some (.int res)) ∧ M2 = M) := by
  intro r0 x1 r2 x3 x4 s0 s1 M h
  unfold a_Work_arrivalsAt_0 at h
  refine aw_iload d_Work_arrivalsAt_5 rfl ?_
  refine aw_aload_n d_Work_arrivalsAt_7 rfl rfl ?_
  obtain ⟨t8, e_t8, h⟩ := q_bind h
  refine aw_gti d_Work_arrivalsAt_8 fl_Work_21 (Or.inl rfl) e_t8 ?_
  refine aw_icmp_ge (tgt := 47) d_Work_arrivalsAt_11 (by decide) (fun hc => ?_) (fun hc => ?_)
  · rw [if_pos hc] at h
    refine aw_iload_n d_Work_arrivalsAt_47 rfl rfl ?_
    cases h
    exact aw_ireturn d_Work_arrivalsAt_48 rfl (Nat.le_of_ble_eq_true rfl) (Nat.le_of_ble_eq_true rfl) ⟨rfl, rfl⟩
  · rw [if_neg hc] at h
    refine aw_iload_n d_Work_arrivalsAt_14 rfl rfl ?_
    refine aw_aload_n d_Work_arrivalsAt_15 rfl rfl ?_
    obtain ⟨t16, e_t16, h⟩ := q_bind h
    refine aw_gtr d_Work_arrivalsAt_16 fl_Work_43 (Or.inr ⟨_, rfl⟩) e_t16 ?_
    refine aw_aload_n d_Work_arrivalsAt_19 rfl rfl ?_
    obtain ⟨t20, e_t20, h⟩ := q_bind h
    refine aw_gtr d_Work_arrivalsAt_20 fl_Work_9 (Or.inr ⟨_, rfl⟩) e_t20 ?_
    refine aw_iload d_Work_arrivalsAt_23 rfl ?_
    obtain ⟨t25, e_t25, h⟩ := q_bind h
    refine aw_ldi d_Work_arrivalsAt_25 e_t25 ?_
    obtain ⟨t26, e_t26, h⟩ := q_bind h
    refine aw_ldr d_Work_arrivalsAt_26 e_t26 ?_
    obtain ⟨t27, e_t27, h⟩ := q_bind h
    refine aw_gti d_Work_arrivalsAt_27 fl_Work_49 (Or.inl rfl) e_t27 ?_
    refine aw_iload_n d_Work_arrivalsAt_30 rfl rfl ?_
    refine aw_icmp_ne (tgt := 38) d_Work_arrivalsAt_31 (by decide) (fun hc => ?_) (fun hc => ?_)
    · rw [if_neg hc] at h
      refine aw_iconst (v := 0) d_Work_arrivalsAt_38 (by decide) ?_
      exact aw_pick [0, 1, 2, 4] rfl (ih_1 _ _ _ _ _ _ _ _ h)
    · rw [if_pos hc] at h
      refine aw_iconst (v := 1) d_Work_arrivalsAt_34 (by decide) ?_
      refine aw_goto (tgt := 39) d_Work_arrivalsAt_35 (by decide) ?_
      exact aw_pick [0, 1, 2, 4] rfl (ih_1 _ _ _ _ _ _ _ _ h)
set_option maxHeartbeats 4000000 in
theorem s_Work_arrivalsAt_1 {rc : Nat → Nat → Int32 → Nat → Int32 → Int32 → Int32 → Int32 → am_M → Option (Int32)} {res : Int32} (ih_0 : ∀ (r0 : Nat) (x1 : Int32) (r2 : Nat) (x3 : Int32) (x4 : Int32) (s0 : Int32) (s1 : Int32) (M : am_M), rc 0 r0 x1 r2 x3 x4 s0 s1 M = some res → AW u_Work_arrivalsAt R_Work_arrivalsAt 0 0 5 [(0, .ref r0), (1, .int x1), (2, .ref r2), (3, .int x3), (4, .int x4)] [] M (fun r M2 => r = .inl (some (.int res)) ∧ M2 = M)) (ih_1 : ∀ (r0 : Nat) (x1 : Int32) (r2 : Nat) (x3 : Int32) (x4 : Int32) (s0 : Int32) (s1 : Int32) (M : am_M), rc 1 r0 x1 r2 x3 x4 s0 s1 M = some res → AW u_Work_arrivalsAt R_Work_arrivalsAt 0 0 39 [(0, .ref r0), (1, .int x1), (2, .ref r2), (4, .int x4)] [.int s0, .int s1] M (fun r M2 => r = .inl (some (.int res)) ∧ M2 = M)) : ∀ (r0 : Nat) (x1 : Int32) (r2 : Nat) (x3 : Int32) (x4 : Int32) (s0 : Int32) (s1 : Int32) (M : am_M), a_Work_arrivalsAt_1 rc r0 x1 r2 x3 x4 s0 s1 M = some res → AW u_Work_arrivalsAt R_Work_arrivalsAt 0 0 39 [(0, .ref r0), (1, .int x1), (2, .ref r2), (4, .int x4)] [.int s0, .int s1] M (fun r M2 => r = .inl (some (.int res)) ∧ M2 = M) := by
  intro r0 x1 r2 x3 x4 s0 s1 M h
  unfold a_Work_arrivalsAt_1 at h
  refine aw_iadd d_Work_arrivalsAt_39 ?_
  refine aw_istore_n (ls' := [(3, .int _), (0, .ref _), (1, .int _), (2, .ref _), (4, .int _)]) d_Work_arrivalsAt_40 rfl (Nat.le_of_ble_eq_true rfl) rfl ?_
  refine aw_iinc (v := (x4 + (1 : Int32))) (ls' := [(4, .int _), (3, .int _), (0, .ref _), (1, .int _), (2, .ref _)]) d_Work_arrivalsAt_41 rfl rfl (Nat.le_of_ble_eq_true rfl) rfl ?_
  refine aw_goto (tgt := 5) d_Work_arrivalsAt_44 (by decide) ?_
  exact aw_pick [2, 3, 4, 1, 0] rfl (ih_0 _ _ _ _ _ _ _ _ h)
theorem l_Work_arrivalsAt {res : Int32} : ∀ F : Nat, (∀ (r0 : Nat) (x1 : Int32) (r2 : Nat) (x3 : Int32) (x4 : Int32) (s0 : Int32) (s1 : Int32) (M : am_M), g_Work_arrivalsAt F 0 r0 x1 r2 x3 x4 s0 s1 M = some res → AW u_Work_arrivalsAt R_Work_arrivalsAt 0 0 5 [(0, .ref r0), (1, .int x1), (2, .ref r2), (3, .int x3), (4, .int x4)] [] M (fun r M2 => r = .inl (some (.int res)) ∧ M2 = M)) ∧ (∀ (r0 : Nat) (x1 : Int32) (r2 : Nat) (x3 : Int32) (x4 : Int32) (s0 : Int32) (s1 : Int32) (M : am_M), g_Work_arrivalsAt F 1 r0 x1 r2 x3 x4 s0 s1 M = some res → AW u_Work_arrivalsAt R_Work_arrivalsAt 0 0 39 [(0, .ref r0), (1, .int x1), (2, .ref r2), (4, .int x4)] [.int s0, .int s1] M (fun r M2 => r = .inl (some (.int res)) ∧ M2 = M)) := by
  intro F
  induction F with
  | zero => exact ⟨fun _ _ _ _ _ _ _ _  h => (by cases h), fun _ _ _ _ _ _ _ _  h => (by cases h)⟩
  | succ F ih =>
    obtain ⟨ih0, ih1⟩ := ih
    exact ⟨s_Work_arrivalsAt_0 ih0 ih1, s_Work_arrivalsAt_1 ih0 ih1⟩
set_option maxHeartbeats 4000000 in
theorem mt_Work_arrivalsAt {M : am_M} {a0 : Nat} {a1 : Int32} {a2 : Nat} {res : Int32} (h : f_Work_arrivalsAt M a0 a1 a2 = some res) : AMet y_Work_arrivalsAt u_Work_arrivalsAt R_Work_arrivalsAt [.ref a0, .int a1, .ref a2] M (fun r M2 => r = .inl (some (.int res)) ∧ M2 = M) := by
  refine am_met (by decide +kernel) w_Work_arrivalsAt rfl rfl (Nat.le_of_ble_eq_true rfl) ?_
  show AW u_Work_arrivalsAt R_Work_arrivalsAt 0 0 0 [(0, .ref a0), (1, .int a1), (2, .ref a2)] [] M (fun r M2 => r = .inl (some (.int res)) ∧ M2 = M)
  have ih_0 := (l_Work_arrivalsAt (res := res) 1000000000).1
  have ih_1 := (l_Work_arrivalsAt (res := res) 1000000000).2
  unfold f_Work_arrivalsAt at h
  unfold e_Work_arrivalsAt at h
  generalize g_Work_arrivalsAt 1000000000 = rc at h ih_0 ih_1
  refine aw_iconst (v := 0) d_Work_arrivalsAt_0 (by decide) ?_
  refine aw_istore_n (ls' := [(3, .int _), (0, .ref _), (1, .int _), (2, .ref _)]) d_Work_arrivalsAt_1 rfl (Nat.le_of_ble_eq_true rfl) rfl ?_
  refine aw_iconst (v := 0) d_Work_arrivalsAt_2 (by decide) ?_
  refine aw_istore (ls' := [(4, .int _), (3, .int _), (0, .ref _), (1, .int _), (2, .ref _)]) d_Work_arrivalsAt_3 (Nat.le_of_ble_eq_true rfl) rfl ?_
  exact aw_pick [2, 3, 4, 1, 0] rfl (ih_0 _ _ _ _ _ _ _ _ h)
def y_Integer_bitCount : MethodName := ⟨"java/lang/Integer", "bitCount", "(I)I"⟩
def u_Integer_bitCount : am_U := ("java/lang/Integer", "bitCount", prog_17_method_49_code, 1, (some .int), [])
def R_Integer_bitCount : Room := { frames := 0, cells := 0, slots := 0, locals := 0 }
theorem d_Integer_bitCount_0 : decode u_Integer_bitCount.2.2.1 0 = .ok (.iload_n 0, 1) := by decide +kernel
theorem d_Integer_bitCount_1 : decode u_Integer_bitCount.2.2.1 1 = .ok (.iload_n 0, 1) := by decide +kernel
theorem d_Integer_bitCount_2 : decode u_Integer_bitCount.2.2.1 2 = .ok (.iconst 1, 1) := by decide +kernel
theorem d_Integer_bitCount_3 : decode u_Integer_bitCount.2.2.1 3 = .ok (.iushr, 1) := by decide +kernel
theorem d_Integer_bitCount_4 : decode u_Integer_bitCount.2.2.1 4 = .ok (.ldc_w 265, 3) := by decide +kernel
theorem d_Integer_bitCount_7 : decode u_Integer_bitCount.2.2.1 7 = .ok (.iand, 1) := by decide +kernel
theorem d_Integer_bitCount_8 : decode u_Integer_bitCount.2.2.1 8 = .ok (.isub, 1) := by decide +kernel
theorem d_Integer_bitCount_9 : decode u_Integer_bitCount.2.2.1 9 = .ok (.istore_n 0, 1) := by decide +kernel
theorem d_Integer_bitCount_10 : decode u_Integer_bitCount.2.2.1 10 = .ok (.iload_n 0, 1) := by decide +kernel
theorem d_Integer_bitCount_11 : decode u_Integer_bitCount.2.2.1 11 = .ok (.ldc_w 266, 3) := by decide +kernel
theorem d_Integer_bitCount_14 : decode u_Integer_bitCount.2.2.1 14 = .ok (.iand, 1) := by decide +kernel
theorem d_Integer_bitCount_15 : decode u_Integer_bitCount.2.2.1 15 = .ok (.iload_n 0, 1) := by decide +kernel
theorem d_Integer_bitCount_16 : decode u_Integer_bitCount.2.2.1 16 = .ok (.iconst 2, 1) := by decide +kernel
theorem d_Integer_bitCount_17 : decode u_Integer_bitCount.2.2.1 17 = .ok (.iushr, 1) := by decide +kernel
theorem d_Integer_bitCount_18 : decode u_Integer_bitCount.2.2.1 18 = .ok (.ldc_w 266, 3) := by decide +kernel
theorem d_Integer_bitCount_21 : decode u_Integer_bitCount.2.2.1 21 = .ok (.iand, 1) := by decide +kernel
theorem d_Integer_bitCount_22 : decode u_Integer_bitCount.2.2.1 22 = .ok (.iadd, 1) := by decide +kernel
theorem d_Integer_bitCount_23 : decode u_Integer_bitCount.2.2.1 23 = .ok (.istore_n 0, 1) := by decide +kernel
theorem d_Integer_bitCount_24 : decode u_Integer_bitCount.2.2.1 24 = .ok (.iload_n 0, 1) := by decide +kernel
theorem d_Integer_bitCount_25 : decode u_Integer_bitCount.2.2.1 25 = .ok (.iload_n 0, 1) := by decide +kernel
theorem d_Integer_bitCount_26 : decode u_Integer_bitCount.2.2.1 26 = .ok (.iconst 4, 1) := by decide +kernel
theorem d_Integer_bitCount_27 : decode u_Integer_bitCount.2.2.1 27 = .ok (.iushr, 1) := by decide +kernel
theorem d_Integer_bitCount_28 : decode u_Integer_bitCount.2.2.1 28 = .ok (.iadd, 1) := by decide +kernel
theorem d_Integer_bitCount_29 : decode u_Integer_bitCount.2.2.1 29 = .ok (.ldc_w 267, 3) := by decide +kernel
theorem d_Integer_bitCount_32 : decode u_Integer_bitCount.2.2.1 32 = .ok (.iand, 1) := by decide +kernel
theorem d_Integer_bitCount_33 : decode u_Integer_bitCount.2.2.1 33 = .ok (.istore_n 0, 1) := by decide +kernel
theorem d_Integer_bitCount_34 : decode u_Integer_bitCount.2.2.1 34 = .ok (.iload_n 0, 1) := by decide +kernel
theorem d_Integer_bitCount_35 : decode u_Integer_bitCount.2.2.1 35 = .ok (.iload_n 0, 1) := by decide +kernel
theorem d_Integer_bitCount_36 : decode u_Integer_bitCount.2.2.1 36 = .ok (.bipush 8, 2) := by decide +kernel
theorem d_Integer_bitCount_38 : decode u_Integer_bitCount.2.2.1 38 = .ok (.iushr, 1) := by decide +kernel
theorem d_Integer_bitCount_39 : decode u_Integer_bitCount.2.2.1 39 = .ok (.iadd, 1) := by decide +kernel
theorem d_Integer_bitCount_40 : decode u_Integer_bitCount.2.2.1 40 = .ok (.istore_n 0, 1) := by decide +kernel
theorem d_Integer_bitCount_41 : decode u_Integer_bitCount.2.2.1 41 = .ok (.iload_n 0, 1) := by decide +kernel
theorem d_Integer_bitCount_42 : decode u_Integer_bitCount.2.2.1 42 = .ok (.iload_n 0, 1) := by decide +kernel
theorem d_Integer_bitCount_43 : decode u_Integer_bitCount.2.2.1 43 = .ok (.bipush 16, 2) := by decide +kernel
theorem d_Integer_bitCount_45 : decode u_Integer_bitCount.2.2.1 45 = .ok (.iushr, 1) := by decide +kernel
theorem d_Integer_bitCount_46 : decode u_Integer_bitCount.2.2.1 46 = .ok (.iadd, 1) := by decide +kernel
theorem d_Integer_bitCount_47 : decode u_Integer_bitCount.2.2.1 47 = .ok (.istore_n 0, 1) := by decide +kernel
theorem d_Integer_bitCount_48 : decode u_Integer_bitCount.2.2.1 48 = .ok (.iload_n 0, 1) := by decide +kernel
theorem d_Integer_bitCount_49 : decode u_Integer_bitCount.2.2.1 49 = .ok (.bipush 63, 2) := by decide +kernel
theorem d_Integer_bitCount_51 : decode u_Integer_bitCount.2.2.1 51 = .ok (.iand, 1) := by decide +kernel
theorem d_Integer_bitCount_52 : decode u_Integer_bitCount.2.2.1 52 = .ok (.ireturn, 1) := by decide +kernel
theorem w_Integer_bitCount : am_code y_Integer_bitCount u_Integer_bitCount ∈ am_ws := am_mem (List.mem_of_getElem? (i := 623) (by decide +kernel)) rfl
def e_Integer_bitCount (M : am_M) (a0 : Int32) : Option (Int32) := some ((((((((a0 - ((((a0).toUInt32 >>> (((1 : Int32)).toUInt32 &&& Int32.toUInt32 31)).toInt32) &&& (1431655765 : Int32))) &&& (858993459 : Int32)) + (((((a0 - ((((a0).toUInt32 >>> (((1 : Int32)).toUInt32 &&& Int32.toUInt32 31)).toInt32) &&& (1431655765 : Int32)))).toUInt32 >>> (((2 : Int32)).toUInt32 &&& Int32.toUInt32 31)).toInt32) &&& (858993459 : Int32))) + ((((((a0 - ((((a0).toUInt32 >>> (((1 : Int32)).toUInt32 &&& Int32.toUInt32 31)).toInt32) &&& (1431655765 : Int32))) &&& (858993459 : Int32)) + (((((a0 - ((((a0).toUInt32 >>> (((1 : Int32)).toUInt32 &&& Int32.toUInt32 31)).toInt32) &&& (1431655765 : Int32)))).toUInt32 >>> (((2 : Int32)).toUInt32 &&& Int32.toUInt32 31)).toInt32) &&& (858993459 : Int32)))).toUInt32 >>> (((4 : Int32)).toUInt32 &&& Int32.toUInt32 31)).toInt32)) &&& (252645135 : Int32)) + ((((((((a0 - ((((a0).toUInt32 >>> (((1 : Int32)).toUInt32 &&& Int32.toUInt32 31)).toInt32) &&& (1431655765 : Int32))) &&& (858993459 : Int32)) + (((((a0 - ((((a0).toUInt32 >>> (((1 : Int32)).toUInt32 &&& Int32.toUInt32 31)).toInt32) &&& (1431655765 : Int32)))).toUInt32 >>> (((2 : Int32)).toUInt32 &&& Int32.toUInt32 31)).toInt32) &&& (858993459 : Int32))) + ((((((a0 - ((((a0).toUInt32 >>> (((1 : Int32)).toUInt32 &&& Int32.toUInt32 31)).toInt32) &&& (1431655765 : Int32))) &&& (858993459 : Int32)) + (((((a0 - ((((a0).toUInt32 >>> (((1 : Int32)).toUInt32 &&& Int32.toUInt32 31)).toInt32) &&& (1431655765 : Int32)))).toUInt32 >>> (((2 : Int32)).toUInt32 &&& Int32.toUInt32 31)).toInt32) &&& (858993459 : Int32)))).toUInt32 >>> (((4 : Int32)).toUInt32 &&& Int32.toUInt32 31)).toInt32)) &&& (252645135 : Int32))).toUInt32 >>> (((8 : Int32)).toUInt32 &&& Int32.toUInt32 31)).toInt32)) + (((((((((a0 - ((((a0).toUInt32 >>> (((1 : Int32)).toUInt32 &&& Int32.toUInt32 31)).toInt32) &&& (1431655765 : Int32))) &&& (858993459 : Int32)) + (((((a0 - ((((a0).toUInt32 >>> (((1 : Int32)).toUInt32 &&& Int32.toUInt32 31)).toInt32) &&& (1431655765 : Int32)))).toUInt32 >>> (((2 : Int32)).toUInt32 &&& Int32.toUInt32 31)).toInt32) &&& (858993459 : Int32))) + ((((((a0 - ((((a0).toUInt32 >>> (((1 : Int32)).toUInt32 &&& Int32.toUInt32 31)).toInt32) &&& (1431655765 : Int32))) &&& (858993459 : Int32)) + (((((a0 - ((((a0).toUInt32 >>> (((1 : Int32)).toUInt32 &&& Int32.toUInt32 31)).toInt32) &&& (1431655765 : Int32)))).toUInt32 >>> (((2 : Int32)).toUInt32 &&& Int32.toUInt32 31)).toInt32) &&& (858993459 : Int32)))).toUInt32 >>> (((4 : Int32)).toUInt32 &&& Int32.toUInt32 31)).toInt32)) &&& (252645135 : Int32)) + ((((((((a0 - ((((a0).toUInt32 >>> (((1 : Int32)).toUInt32 &&& Int32.toUInt32 31)).toInt32) &&& (1431655765 : Int32))) &&& (858993459 : Int32)) + (((((a0 - ((((a0).toUInt32 >>> (((1 : Int32)).toUInt32 &&& Int32.toUInt32 31)).toInt32) &&& (1431655765 : Int32)))).toUInt32 >>> (((2 : Int32)).toUInt32 &&& Int32.toUInt32 31)).toInt32) &&& (858993459 : Int32))) + ((((((a0 - ((((a0).toUInt32 >>> (((1 : Int32)).toUInt32 &&& Int32.toUInt32 31)).toInt32) &&& (1431655765 : Int32))) &&& (858993459 : Int32)) + (((((a0 - ((((a0).toUInt32 >>> (((1 : Int32)).toUInt32 &&& Int32.toUInt32 31)).toInt32) &&& (1431655765 : Int32)))).toUInt32 >>> (((2 : Int32)).toUInt32 &&& Int32.toUInt32 31)).toInt32) &&& (858993459 : Int32)))).toUInt32 >>> (((4 : Int32)).toUInt32 &&& Int32.toUInt32 31)).toInt32)) &&& (252645135 : Int32))).toUInt32 >>> (((8 : Int32)).toUInt32 &&& Int32.toUInt32 31)).toInt32))).toUInt32 >>> (((16 : Int32)).toUInt32 &&& Int32.toUInt32 31)).toInt32)) &&& (63 : Int32))
def f_Integer_bitCount (M : am_M) (a0 : Int32) : Option (Int32) := e_Integer_bitCount M a0
set_option maxHeartbeats 4000000 in
theorem mt_Integer_bitCount {M : am_M} {a0 : Int32} {res : Int32} (h : f_Integer_bitCount M a0 = some res) : AMet y_Integer_bitCount u_Integer_bitCount R_Integer_bitCount [.int a0] M (fun r M2 => r = .inl (some (.int res)) ∧ M2 = M) := by
  refine am_met (by decide +kernel) w_Integer_bitCount rfl rfl (Nat.le_of_ble_eq_true rfl) ?_
  show AW u_Integer_bitCount R_Integer_bitCount 0 0 0 [(0, .int a0)] [] M (fun r M2 => r = .inl (some (.int res)) ∧ M2 = M)
  unfold f_Integer_bitCount at h
  unfold e_Integer_bitCount at h
  refine aw_iload_n d_Integer_bitCount_0 rfl rfl ?_
  refine aw_iload_n d_Integer_bitCount_1 rfl rfl ?_
  refine aw_iconst (v := 1) d_Integer_bitCount_2 (by decide) ?_
  refine aw_iushr d_Integer_bitCount_3 ?_
  refine aw_ldcw (v := 1431655765) d_Integer_bitCount_4 (List.mem_of_getElem? (i := 624) (by decide +kernel)) ?_
  refine aw_iand d_Integer_bitCount_7 ?_
  refine aw_isub d_Integer_bitCount_8 ?_
  refine aw_istore_n (ls' := [(0, .int _)]) d_Integer_bitCount_9 rfl (Nat.le_of_ble_eq_true rfl) rfl ?_
  refine aw_iload_n d_Integer_bitCount_10 rfl rfl ?_
  refine aw_ldcw (v := 858993459) d_Integer_bitCount_11 (List.mem_of_getElem? (i := 625) (by decide +kernel)) ?_
  refine aw_iand d_Integer_bitCount_14 ?_
  refine aw_iload_n d_Integer_bitCount_15 rfl rfl ?_
  refine aw_iconst (v := 2) d_Integer_bitCount_16 (by decide) ?_
  refine aw_iushr d_Integer_bitCount_17 ?_
  refine aw_ldcw (v := 858993459) d_Integer_bitCount_18 (List.mem_of_getElem? (i := 625) (by decide +kernel)) ?_
  refine aw_iand d_Integer_bitCount_21 ?_
  refine aw_iadd d_Integer_bitCount_22 ?_
  refine aw_istore_n (ls' := [(0, .int _)]) d_Integer_bitCount_23 rfl (Nat.le_of_ble_eq_true rfl) rfl ?_
  refine aw_iload_n d_Integer_bitCount_24 rfl rfl ?_
  refine aw_iload_n d_Integer_bitCount_25 rfl rfl ?_
  refine aw_iconst (v := 4) d_Integer_bitCount_26 (by decide) ?_
  refine aw_iushr d_Integer_bitCount_27 ?_
  refine aw_iadd d_Integer_bitCount_28 ?_
  refine aw_ldcw (v := 252645135) d_Integer_bitCount_29 (List.mem_of_getElem? (i := 626) (by decide +kernel)) ?_
  refine aw_iand d_Integer_bitCount_32 ?_
  refine aw_istore_n (ls' := [(0, .int _)]) d_Integer_bitCount_33 rfl (Nat.le_of_ble_eq_true rfl) rfl ?_
  refine aw_iload_n d_Integer_bitCount_34 rfl rfl ?_
  refine aw_iload_n d_Integer_bitCount_35 rfl rfl ?_
  refine aw_bipush (v := 8) d_Integer_bitCount_36 (by decide) ?_
  refine aw_iushr d_Integer_bitCount_38 ?_
  refine aw_iadd d_Integer_bitCount_39 ?_
  refine aw_istore_n (ls' := [(0, .int _)]) d_Integer_bitCount_40 rfl (Nat.le_of_ble_eq_true rfl) rfl ?_
  refine aw_iload_n d_Integer_bitCount_41 rfl rfl ?_
  refine aw_iload_n d_Integer_bitCount_42 rfl rfl ?_
  refine aw_bipush (v := 16) d_Integer_bitCount_43 (by decide) ?_
  refine aw_iushr d_Integer_bitCount_45 ?_
  refine aw_iadd d_Integer_bitCount_46 ?_
  refine aw_istore_n (ls' := [(0, .int _)]) d_Integer_bitCount_47 rfl (Nat.le_of_ble_eq_true rfl) rfl ?_
  refine aw_iload_n d_Integer_bitCount_48 rfl rfl ?_
  refine aw_bipush (v := 63) d_Integer_bitCount_49 (by decide) ?_
  refine aw_iand d_Integer_bitCount_51 ?_
  cases h
  exact aw_ireturn d_Integer_bitCount_52 rfl (Nat.le_of_ble_eq_true rfl) (Nat.le_of_ble_eq_true rfl) ⟨rfl, rfl⟩
def y_Math_floorMod : MethodName := ⟨"java/lang/Math", "floorMod", "(II)I"⟩
def u_Math_floorMod : am_U := ("java/lang/Math", "floorMod", prog_18_method_50_code, 3, (some .int), [])
def R_Math_floorMod : Room := { frames := 0, cells := 0, slots := 0, locals := 0 }
theorem d_Math_floorMod_0 : decode u_Math_floorMod.2.2.1 0 = .ok (.iload_n 0, 1) := by decide +kernel
theorem d_Math_floorMod_1 : decode u_Math_floorMod.2.2.1 1 = .ok (.iload_n 1, 1) := by decide +kernel
theorem d_Math_floorMod_2 : decode u_Math_floorMod.2.2.1 2 = .ok (.irem, 1) := by decide +kernel
theorem d_Math_floorMod_3 : decode u_Math_floorMod.2.2.1 3 = .ok (.istore_n 2, 1) := by decide +kernel
theorem d_Math_floorMod_4 : decode u_Math_floorMod.2.2.1 4 = .ok (.iload_n 0, 1) := by decide +kernel
theorem d_Math_floorMod_5 : decode u_Math_floorMod.2.2.1 5 = .ok (.iload_n 1, 1) := by decide +kernel
theorem d_Math_floorMod_6 : decode u_Math_floorMod.2.2.1 6 = .ok (.ixor, 1) := by decide +kernel
theorem d_Math_floorMod_7 : decode u_Math_floorMod.2.2.1 7 = .ok (.ifCond .ge 11, 3) := by decide +kernel
theorem d_Math_floorMod_10 : decode u_Math_floorMod.2.2.1 10 = .ok (.iload_n 2, 1) := by decide +kernel
theorem d_Math_floorMod_11 : decode u_Math_floorMod.2.2.1 11 = .ok (.ifCond .eq 7, 3) := by decide +kernel
theorem d_Math_floorMod_14 : decode u_Math_floorMod.2.2.1 14 = .ok (.iload_n 2, 1) := by decide +kernel
theorem d_Math_floorMod_15 : decode u_Math_floorMod.2.2.1 15 = .ok (.iload_n 1, 1) := by decide +kernel
theorem d_Math_floorMod_16 : decode u_Math_floorMod.2.2.1 16 = .ok (.iadd, 1) := by decide +kernel
theorem d_Math_floorMod_17 : decode u_Math_floorMod.2.2.1 17 = .ok (.ireturn, 1) := by decide +kernel
theorem d_Math_floorMod_18 : decode u_Math_floorMod.2.2.1 18 = .ok (.iload_n 2, 1) := by decide +kernel
theorem d_Math_floorMod_19 : decode u_Math_floorMod.2.2.1 19 = .ok (.ireturn, 1) := by decide +kernel
theorem w_Math_floorMod : am_code y_Math_floorMod u_Math_floorMod ∈ am_ws := am_mem (List.mem_of_getElem? (i := 542) (by decide +kernel)) rfl
def e_Math_floorMod (M : am_M) (a0 : Int32) (a1 : Int32) : Option (Int32) := (q_rem a0 a1).bind (fun t2 => if 0 ≤ (a0 ^^^ a1) then (some t2) else (if t2 = 0 then (some t2) else (some (t2 + a1))))
def f_Math_floorMod (M : am_M) (a0 : Int32) (a1 : Int32) : Option (Int32) := e_Math_floorMod M a0 a1
set_option maxHeartbeats 4000000 in
theorem mt_Math_floorMod {M : am_M} {a0 : Int32} {a1 : Int32} {res : Int32} (h : f_Math_floorMod M a0 a1 = some res) : AMet y_Math_floorMod u_Math_floorMod R_Math_floorMod [.int a0, .int a1] M (fun r M2 => r = .inl (some (.int res)) ∧ M2 = M) := by
  refine am_met (by decide +kernel) w_Math_floorMod rfl rfl (Nat.le_of_ble_eq_true rfl) ?_
  show AW u_Math_floorMod R_Math_floorMod 0 0 0 [(0, .int a0), (1, .int a1)] [] M (fun r M2 => r = .inl (some (.int res)) ∧ M2 = M)
  unfold f_Math_floorMod at h
  unfold e_Math_floorMod at h
  refine aw_iload_n d_Math_floorMod_0 rfl rfl ?_
  refine aw_iload_n d_Math_floorMod_1 rfl rfl ?_
  obtain ⟨t2, e_t2, h⟩ := q_bind h
  refine aw_rem d_Math_floorMod_2 e_t2 ?_
  refine aw_istore_n (ls' := [(2, .int _), (0, .int _), (1, .int _)]) d_Math_floorMod_3 rfl (Nat.le_of_ble_eq_true rfl) rfl ?_
  refine aw_iload_n d_Math_floorMod_4 rfl rfl ?_
  refine aw_iload_n d_Math_floorMod_5 rfl rfl ?_
  refine aw_ixor d_Math_floorMod_6 ?_
  refine aw_if_ge (tgt := 18) d_Math_floorMod_7 (by decide) (fun hc => ?_) (fun hc => ?_)
  · rw [if_pos hc] at h
    refine aw_iload_n d_Math_floorMod_18 rfl rfl ?_
    cases h
    exact aw_ireturn d_Math_floorMod_19 rfl (Nat.le_of_ble_eq_true rfl) (Nat.le_of_ble_eq_true rfl) ⟨rfl, rfl⟩
  · rw [if_neg hc] at h
    refine aw_iload_n d_Math_floorMod_10 rfl rfl ?_
    refine aw_if_eq (tgt := 18) d_Math_floorMod_11 (by decide) (fun hc => ?_) (fun hc => ?_)
    · rw [if_pos hc] at h
      refine aw_iload_n d_Math_floorMod_18 rfl rfl ?_
      cases h
      exact aw_ireturn d_Math_floorMod_19 rfl (Nat.le_of_ble_eq_true rfl) (Nat.le_of_ble_eq_true rfl) ⟨rfl, rfl⟩
    · rw [if_neg hc] at h
      refine aw_iload_n d_Math_floorMod_14 rfl rfl ?_
      refine aw_iload_n d_Math_floorMod_15 rfl rfl ?_
      refine aw_iadd d_Math_floorMod_16 ?_
      cases h
      exact aw_ireturn d_Math_floorMod_17 rfl (Nat.le_of_ble_eq_true rfl) (Nat.le_of_ble_eq_true rfl) ⟨rfl, rfl⟩
def y_Math_max : MethodName := ⟨"java/lang/Math", "max", "(II)I"⟩
def u_Math_max : am_U := ("java/lang/Math", "max", prog_18_method_65_code, 2, (some .int), [])
def R_Math_max : Room := { frames := 0, cells := 0, slots := 0, locals := 0 }
theorem d_Math_max_0 : decode u_Math_max.2.2.1 0 = .ok (.iload_n 0, 1) := by decide +kernel
theorem d_Math_max_1 : decode u_Math_max.2.2.1 1 = .ok (.iload_n 1, 1) := by decide +kernel
theorem d_Math_max_2 : decode u_Math_max.2.2.1 2 = .ok (.if_icmp .lt 7, 3) := by decide +kernel
theorem d_Math_max_5 : decode u_Math_max.2.2.1 5 = .ok (.iload_n 0, 1) := by decide +kernel
theorem d_Math_max_6 : decode u_Math_max.2.2.1 6 = .ok (.goto 4, 3) := by decide +kernel
theorem d_Math_max_9 : decode u_Math_max.2.2.1 9 = .ok (.iload_n 1, 1) := by decide +kernel
theorem d_Math_max_10 : decode u_Math_max.2.2.1 10 = .ok (.ireturn, 1) := by decide +kernel
theorem w_Math_max : am_code y_Math_max u_Math_max ∈ am_ws := am_mem (List.mem_of_getElem? (i := 552) (by decide +kernel)) rfl
def e_Math_max (M : am_M) (a0 : Int32) (a1 : Int32) : Option (Int32) := if a0 < a1 then (some a1) else (some a0)
def f_Math_max (M : am_M) (a0 : Int32) (a1 : Int32) : Option (Int32) := e_Math_max M a0 a1
set_option maxHeartbeats 4000000 in
theorem mt_Math_max {M : am_M} {a0 : Int32} {a1 : Int32} {res : Int32} (h : f_Math_max M a0 a1 = some res) : AMet y_Math_max u_Math_max R_Math_max [.int a0, .int a1] M (fun r M2 => r = .inl (some (.int res)) ∧ M2 = M) := by
  refine am_met (by decide +kernel) w_Math_max rfl rfl (Nat.le_of_ble_eq_true rfl) ?_
  show AW u_Math_max R_Math_max 0 0 0 [(0, .int a0), (1, .int a1)] [] M (fun r M2 => r = .inl (some (.int res)) ∧ M2 = M)
  unfold f_Math_max at h
  unfold e_Math_max at h
  refine aw_iload_n d_Math_max_0 rfl rfl ?_
  refine aw_iload_n d_Math_max_1 rfl rfl ?_
  refine aw_icmp_lt (tgt := 9) d_Math_max_2 (by decide) (fun hc => ?_) (fun hc => ?_)
  · rw [if_pos hc] at h
    refine aw_iload_n d_Math_max_9 rfl rfl ?_
    cases h
    exact aw_ireturn d_Math_max_10 rfl (Nat.le_of_ble_eq_true rfl) (Nat.le_of_ble_eq_true rfl) ⟨rfl, rfl⟩
  · rw [if_neg hc] at h
    refine aw_iload_n d_Math_max_5 rfl rfl ?_
    refine aw_goto (tgt := 10) d_Math_max_6 (by decide) ?_
    cases h
    exact aw_ireturn d_Math_max_10 rfl (Nat.le_of_ble_eq_true rfl) (Nat.le_of_ble_eq_true rfl) ⟨rfl, rfl⟩
def y_Math_min : MethodName := ⟨"java/lang/Math", "min", "(II)I"⟩
def u_Math_min : am_U := ("java/lang/Math", "min", prog_18_method_69_code, 2, (some .int), [])
def R_Math_min : Room := { frames := 0, cells := 0, slots := 0, locals := 0 }
theorem d_Math_min_0 : decode u_Math_min.2.2.1 0 = .ok (.iload_n 0, 1) := by decide +kernel
theorem d_Math_min_1 : decode u_Math_min.2.2.1 1 = .ok (.iload_n 1, 1) := by decide +kernel
theorem d_Math_min_2 : decode u_Math_min.2.2.1 2 = .ok (.if_icmp .gt 7, 3) := by decide +kernel
theorem d_Math_min_5 : decode u_Math_min.2.2.1 5 = .ok (.iload_n 0, 1) := by decide +kernel
theorem d_Math_min_6 : decode u_Math_min.2.2.1 6 = .ok (.goto 4, 3) := by decide +kernel
theorem d_Math_min_9 : decode u_Math_min.2.2.1 9 = .ok (.iload_n 1, 1) := by decide +kernel
theorem d_Math_min_10 : decode u_Math_min.2.2.1 10 = .ok (.ireturn, 1) := by decide +kernel
theorem w_Math_min : am_code y_Math_min u_Math_min ∈ am_ws := am_mem (List.mem_of_getElem? (i := 545) (by decide +kernel)) rfl
def e_Math_min (M : am_M) (a0 : Int32) (a1 : Int32) : Option (Int32) := if a1 < a0 then (some a1) else (some a0)
def f_Math_min (M : am_M) (a0 : Int32) (a1 : Int32) : Option (Int32) := e_Math_min M a0 a1
set_option maxHeartbeats 4000000 in
theorem mt_Math_min {M : am_M} {a0 : Int32} {a1 : Int32} {res : Int32} (h : f_Math_min M a0 a1 = some res) : AMet y_Math_min u_Math_min R_Math_min [.int a0, .int a1] M (fun r M2 => r = .inl (some (.int res)) ∧ M2 = M) := by
  refine am_met (by decide +kernel) w_Math_min rfl rfl (Nat.le_of_ble_eq_true rfl) ?_
  show AW u_Math_min R_Math_min 0 0 0 [(0, .int a0), (1, .int a1)] [] M (fun r M2 => r = .inl (some (.int res)) ∧ M2 = M)
  unfold f_Math_min at h
  unfold e_Math_min at h
  refine aw_iload_n d_Math_min_0 rfl rfl ?_
  refine aw_iload_n d_Math_min_1 rfl rfl ?_
  refine aw_icmp_gt (tgt := 9) d_Math_min_2 (by decide) (fun hc => ?_) (fun hc => ?_)
  · rw [if_pos hc] at h
    refine aw_iload_n d_Math_min_9 rfl rfl ?_
    cases h
    exact aw_ireturn d_Math_min_10 rfl (Nat.le_of_ble_eq_true rfl) (Nat.le_of_ble_eq_true rfl) ⟨rfl, rfl⟩
  · rw [if_neg hc] at h
    refine aw_iload_n d_Math_min_5 rfl rfl ?_
    refine aw_goto (tgt := 10) d_Math_min_6 (by decide) ?_
    cases h
    exact aw_ireturn d_Math_min_10 rfl (Nat.le_of_ble_eq_true rfl) (Nat.le_of_ble_eq_true rfl) ⟨rfl, rfl⟩
def y_Arrays_fill : MethodName := ⟨"java/util/Arrays", "fill", "([II)V"⟩
def u_Arrays_fill : am_U := ("java/util/Arrays", "fill", prog_23_method_103_code, 4, none, [])
def R_Arrays_fill : Room := { frames := 0, cells := 0, slots := 0, locals := 0 }
theorem d_Arrays_fill_0 : decode u_Arrays_fill.2.2.1 0 = .ok (.iconst 0, 1) := by decide +kernel
theorem d_Arrays_fill_1 : decode u_Arrays_fill.2.2.1 1 = .ok (.istore_n 2, 1) := by decide +kernel
theorem d_Arrays_fill_2 : decode u_Arrays_fill.2.2.1 2 = .ok (.aload_n 0, 1) := by decide +kernel
theorem d_Arrays_fill_3 : decode u_Arrays_fill.2.2.1 3 = .ok (.arraylength, 1) := by decide +kernel
theorem d_Arrays_fill_4 : decode u_Arrays_fill.2.2.1 4 = .ok (.istore_n 3, 1) := by decide +kernel
theorem d_Arrays_fill_5 : decode u_Arrays_fill.2.2.1 5 = .ok (.iload_n 2, 1) := by decide +kernel
theorem d_Arrays_fill_6 : decode u_Arrays_fill.2.2.1 6 = .ok (.iload_n 3, 1) := by decide +kernel
theorem d_Arrays_fill_7 : decode u_Arrays_fill.2.2.1 7 = .ok (.if_icmp .ge 13, 3) := by decide +kernel
theorem d_Arrays_fill_10 : decode u_Arrays_fill.2.2.1 10 = .ok (.aload_n 0, 1) := by decide +kernel
theorem d_Arrays_fill_11 : decode u_Arrays_fill.2.2.1 11 = .ok (.iload_n 2, 1) := by decide +kernel
theorem d_Arrays_fill_12 : decode u_Arrays_fill.2.2.1 12 = .ok (.iload_n 1, 1) := by decide +kernel
theorem d_Arrays_fill_13 : decode u_Arrays_fill.2.2.1 13 = .ok (.iastore, 1) := by decide +kernel
theorem d_Arrays_fill_14 : decode u_Arrays_fill.2.2.1 14 = .ok (.iinc 2 1, 3) := by decide +kernel
theorem d_Arrays_fill_17 : decode u_Arrays_fill.2.2.1 17 = .ok (.goto (-12), 3) := by decide +kernel
theorem d_Arrays_fill_20 : decode u_Arrays_fill.2.2.1 20 = .ok (.return_, 1) := by decide +kernel
theorem w_Arrays_fill : am_code y_Arrays_fill u_Arrays_fill ∈ am_ws := am_mem (List.mem_of_getElem? (i := 216) (by decide +kernel)) rfl
def a_Arrays_fill_0 (rc : Nat → Nat → Int32 → Int32 → Int32 → am_M → Option (Unit × am_M)) (r0 : Nat) (x1 : Int32) (x2 : Int32) (x3 : Int32) (M : am_M) : Option (Unit × am_M) := if x3 ≤ x2 then (some ((), M)) else ((q_sti M r0 x2 x1).bind (fun M13 => rc 0 r0 x1 (x2 + (1 : Int32)) x3 M13))
def g_Arrays_fill : Nat → Nat → Nat → Int32 → Int32 → Int32 → am_M → Option (Unit × am_M)
  | 0, _, _, _, _, _, _ => none
  | F + 1, 0, r0, x1, x2, x3, M => a_Arrays_fill_0 (g_Arrays_fill F) r0 x1 x2 x3 M
  | _ + 1, _ + 1, _, _, _, _, _ => none
def e_Arrays_fill (rc : Nat → Nat → Int32 → Int32 → Int32 → am_M → Option (Unit × am_M)) (M : am_M) (a0 : Nat) (a1 : Int32) : Option (Unit × am_M) := (q_len M a0).bind (fun t3 => rc 0 a0 a1 (0 : Int32) t3 M)
def f_Arrays_fill (M : am_M) (a0 : Nat) (a1 : Int32) : Option (Unit × am_M) := e_Arrays_fill (g_Arrays_fill 1000000000) M a0 a1
set_option maxHeartbeats 4000000 in
theorem s_Arrays_fill_0 {rc : Nat → Nat → Int32 → Int32 → Int32 → am_M → Option (Unit × am_M)} {res : Unit} {M' : am_M} (ih_0 : ∀ (r0 : Nat) (x1 : Int32) (x2 : Int32) (x3 : Int32) (M : am_M), rc 0 r0 x1 x2 x3 M = some (res, M') → AW u_Arrays_fill R_Arrays_fill 0 0 5 [(0, .ref r0), (1, .int x1), (2, .int x2), (3, .int x3)] [] M (fun r M2 => r = .inl none ∧ M2 = M')) : ∀ (r0 : Nat) (x1 : Int32) (x2 : Int32) (x3 : Int32) (M : am_M), a_Arrays_fill_0 rc r0 x1 x2 x3 M = some (res, M') → AW u_Arrays_fill R_Arrays_fill 0 0 5 [(0, .ref r0), (1, .int x1), (2, .int x2), (3, .int x3)] [] M (fun r M2 => r = .inl none ∧ M2 = M') := by
  intro r0 x1 x2 x3 M h
  unfold a_Arrays_fill_0 at h
  refine aw_iload_n d_Arrays_fill_5 rfl rfl ?_
  refine aw_iload_n d_Arrays_fill_6 rfl rfl ?_
  refine aw_icmp_ge (tgt := 20) d_Arrays_fill_7 (by decide) (fun hc => ?_) (fun hc => ?_)
  · rw [if_pos hc] at h
    cases h
    exact aw_vreturn d_Arrays_fill_20 rfl (Nat.le_of_ble_eq_true rfl) (Nat.le_of_ble_eq_true rfl) ⟨rfl, rfl⟩
  · rw [if_neg hc] at h
    refine aw_aload_n d_Arrays_fill_10 rfl rfl ?_
    refine aw_iload_n d_Arrays_fill_11 rfl rfl ?_
    refine aw_iload_n d_Arrays_fill_12 rfl rfl ?_
    obtain ⟨M13, e_M13, h⟩ := q_bind h
    refine aw_sti d_Arrays_fill_13 e_M13 ?_
    refine aw_iinc (v := (x2 + (1 : Int32))) (ls' := [(2, .int _), (0, .ref _), (1, .int _), (3, .int _)]) d_Arrays_fill_14 rfl rfl (Nat.le_of_ble_eq_true rfl) rfl ?_
    refine aw_goto (tgt := 5) d_Arrays_fill_17 (by decide) ?_
    exact aw_pick [1, 2, 0, 3] rfl (ih_0 _ _ _ _ _ h)
theorem l_Arrays_fill {res : Unit} {M' : am_M} : ∀ F : Nat, (∀ (r0 : Nat) (x1 : Int32) (x2 : Int32) (x3 : Int32) (M : am_M), g_Arrays_fill F 0 r0 x1 x2 x3 M = some (res, M') → AW u_Arrays_fill R_Arrays_fill 0 0 5 [(0, .ref r0), (1, .int x1), (2, .int x2), (3, .int x3)] [] M (fun r M2 => r = .inl none ∧ M2 = M')) := by
  intro F
  induction F with
  | zero => exact fun _ _ _ _ _  h => (by cases h)
  | succ F ih =>
    have ih0 := ih
    exact s_Arrays_fill_0 ih0
set_option maxHeartbeats 4000000 in
theorem mt_Arrays_fill {M : am_M} {a0 : Nat} {a1 : Int32} {res : Unit} {M' : am_M} (h : f_Arrays_fill M a0 a1 = some (res, M')) : AMet y_Arrays_fill u_Arrays_fill R_Arrays_fill [.ref a0, .int a1] M (fun r M2 => r = .inl none ∧ M2 = M') := by
  refine am_met (by decide +kernel) w_Arrays_fill rfl rfl (Nat.le_of_ble_eq_true rfl) ?_
  show AW u_Arrays_fill R_Arrays_fill 0 0 0 [(0, .ref a0), (1, .int a1)] [] M (fun r M2 => r = .inl none ∧ M2 = M')
  have ih_0 := (l_Arrays_fill (res := res) (M' := M') 1000000000)
  unfold f_Arrays_fill at h
  unfold e_Arrays_fill at h
  generalize g_Arrays_fill 1000000000 = rc at h ih_0
  refine aw_iconst (v := 0) d_Arrays_fill_0 (by decide) ?_
  refine aw_istore_n (ls' := [(2, .int _), (0, .ref _), (1, .int _)]) d_Arrays_fill_1 rfl (Nat.le_of_ble_eq_true rfl) rfl ?_
  refine aw_aload_n d_Arrays_fill_2 rfl rfl ?_
  obtain ⟨t3, e_t3, h⟩ := q_bind h
  refine aw_len d_Arrays_fill_3 e_t3 ?_
  refine aw_istore_n (ls' := [(3, .int _), (2, .int _), (0, .ref _), (1, .int _)]) d_Arrays_fill_4 rfl (Nat.le_of_ble_eq_true rfl) rfl ?_
  exact aw_pick [2, 3, 1, 0] rfl (ih_0 _ _ _ _ _ h)
def y_Office_chain : MethodName := ⟨"CrewOffice", "chain", "(I)I"⟩
def u_Office_chain : am_U := ("CrewOffice", "chain", prog_1_method_11_code, 2, (some .int), [])
def R_Office_chain : Room := { frames := 9, cells := 2, slots := 12, locals := 220 }
theorem d_Office_chain_0 : decode u_Office_chain.2.2.1 0 = .ok (.iload_n 1, 1) := by decide +kernel
theorem d_Office_chain_1 : decode u_Office_chain.2.2.1 1 = .ok (.iconst 0, 1) := by decide +kernel
theorem d_Office_chain_2 : decode u_Office_chain.2.2.1 2 = .ok (.bipush 11, 2) := by decide +kernel
theorem d_Office_chain_4 : decode u_Office_chain.2.2.1 4 = .ok (.invokestatic 50, 3) := by decide +kernel
theorem d_Office_chain_7 : decode u_Office_chain.2.2.1 7 = .ok (.invokestatic 54, 3) := by decide +kernel
theorem d_Office_chain_10 : decode u_Office_chain.2.2.1 10 = .ok (.aload_n 0, 1) := by decide +kernel
theorem d_Office_chain_11 : decode u_Office_chain.2.2.1 11 = .ok (.getfield 21, 3) := by decide +kernel
theorem d_Office_chain_14 : decode u_Office_chain.2.2.1 14 = .ok (.getfield 122, 3) := by decide +kernel
theorem d_Office_chain_17 : decode u_Office_chain.2.2.1 17 = .ok (.getfield 126, 3) := by decide +kernel
theorem d_Office_chain_20 : decode u_Office_chain.2.2.1 20 = .ok (.bipush 8, 2) := by decide +kernel
theorem d_Office_chain_22 : decode u_Office_chain.2.2.1 22 = .ok (.if_icmp .ge 7, 3) := by decide +kernel
theorem d_Office_chain_25 : decode u_Office_chain.2.2.1 25 = .ok (.iconst 1, 1) := by decide +kernel
theorem d_Office_chain_26 : decode u_Office_chain.2.2.1 26 = .ok (.goto 4, 3) := by decide +kernel
theorem d_Office_chain_29 : decode u_Office_chain.2.2.1 29 = .ok (.iconst 0, 1) := by decide +kernel
theorem d_Office_chain_30 : decode u_Office_chain.2.2.1 30 = .ok (.invokestatic 131, 3) := by decide +kernel
theorem d_Office_chain_33 : decode u_Office_chain.2.2.1 33 = .ok (.aload_n 0, 1) := by decide +kernel
theorem d_Office_chain_34 : decode u_Office_chain.2.2.1 34 = .ok (.getfield 21, 3) := by decide +kernel
theorem d_Office_chain_37 : decode u_Office_chain.2.2.1 37 = .ok (.aload_n 0, 1) := by decide +kernel
theorem d_Office_chain_38 : decode u_Office_chain.2.2.1 38 = .ok (.getfield 21, 3) := by decide +kernel
theorem d_Office_chain_41 : decode u_Office_chain.2.2.1 41 = .ok (.getfield 122, 3) := by decide +kernel
theorem d_Office_chain_44 : decode u_Office_chain.2.2.1 44 = .ok (.getfield 126, 3) := by decide +kernel
theorem d_Office_chain_47 : decode u_Office_chain.2.2.1 47 = .ok (.iload_n 1, 1) := by decide +kernel
theorem d_Office_chain_48 : decode u_Office_chain.2.2.1 48 = .ok (.invokevirtual 134, 3) := by decide +kernel
theorem d_Office_chain_51 : decode u_Office_chain.2.2.1 51 = .ok (.aload_n 0, 1) := by decide +kernel
theorem d_Office_chain_52 : decode u_Office_chain.2.2.1 52 = .ok (.getfield 21, 3) := by decide +kernel
theorem d_Office_chain_55 : decode u_Office_chain.2.2.1 55 = .ok (.getfield 122, 3) := by decide +kernel
theorem d_Office_chain_58 : decode u_Office_chain.2.2.1 58 = .ok (.getfield 126, 3) := by decide +kernel
theorem d_Office_chain_61 : decode u_Office_chain.2.2.1 61 = .ok (.ireturn, 1) := by decide +kernel
theorem w_Office_chain : am_code y_Office_chain u_Office_chain ∈ am_ws := am_mem (List.mem_of_getElem? (i := 805) (by decide +kernel)) rfl
def a_Office_chain_0 (rc : Nat → Nat → Int32 → Int32 → am_M → Option ((Int32 ⊕ Nat) × am_M)) (r0 : Nat) (x1 : Int32) (s0 : Int32) (M : am_M) : Option ((Int32 ⊕ Nat) × am_M) := (f_Office_needState M s0).bind (fun p30 => q_try p30 (fun _ M30 => (q_gtr M30 r0 9 1).bind (fun t34 => (q_gtr M30 r0 9 1).bind (fun t38 => (q_gtr M30 t38 5 1).bind (fun t41 => (q_gti M30 t41 4 1).bind (fun t44 => (q_ob M30 t34 5).bind (fun o48 => (f_Trip_put M30 t34 t44 x1).bind (fun p48 => (q_gtr p48.2 r0 9 1).bind (fun t52 => (q_gtr p48.2 t52 5 1).bind (fun t55 => (q_gti p48.2 t55 4 1).bind (fun t58 => some (.inl t58, p48.2))))))))))))
def g_Office_chain : Nat → Nat → Nat → Int32 → Int32 → am_M → Option ((Int32 ⊕ Nat) × am_M)
  | 0, _, _, _, _, _ => none
  | F + 1, 0, r0, x1, s0, M => a_Office_chain_0 (g_Office_chain F) r0 x1 s0 M
  | _ + 1, _ + 1, _, _, _, _ => none
def e_Office_chain (rc : Nat → Nat → Int32 → Int32 → am_M → Option ((Int32 ⊕ Nat) × am_M)) (M : am_M) (a0 : Nat) (a1 : Int32) : Option ((Int32 ⊕ Nat) × am_M) := (f_Office_isWithin M a1 (0 : Int32) (11 : Int32)).bind (fun t4 => (f_Office_needArgument M t4).bind (fun p7 => q_try p7 (fun _ M7 => (q_gtr M7 a0 9 1).bind (fun t11 => (q_gtr M7 t11 5 1).bind (fun t14 => (q_gti M7 t14 4 1).bind (fun t17 => if (8 : Int32) ≤ t17 then (rc 0 a0 a1 (0 : Int32) M7) else (rc 0 a0 a1 (1 : Int32) M7)))))))
def f_Office_chain (M : am_M) (a0 : Nat) (a1 : Int32) : Option ((Int32 ⊕ Nat) × am_M) := e_Office_chain (g_Office_chain 1000000000) M a0 a1
theorem kS_Office_50 : am_kS "CrewOffice" 50 y_Office_isWithin u_Office_isWithin 3 := ⟨List.mem_of_getElem? (i := 635) (by decide +kernel), List.mem_of_getElem? (i := 636) (by decide +kernel), List.mem_of_getElem? (i := 54) (by decide +kernel), w_Office_isWithin, ⟨⟨by decide +kernel, by decide +kernel⟩, by decide +kernel⟩⟩
theorem kS_Office_54 : am_kS "CrewOffice" 54 y_Office_needArgument u_Office_needArgument 1 := ⟨List.mem_of_getElem? (i := 638) (by decide +kernel), List.mem_of_getElem? (i := 639) (by decide +kernel), List.mem_of_getElem? (i := 54) (by decide +kernel), w_Office_needArgument, ⟨⟨by decide +kernel, by decide +kernel⟩, by decide +kernel⟩⟩
theorem kS_Office_131 : am_kS "CrewOffice" 131 y_Office_needState u_Office_needState 1 := ⟨List.mem_of_getElem? (i := 806) (by decide +kernel), List.mem_of_getElem? (i := 807) (by decide +kernel), List.mem_of_getElem? (i := 54) (by decide +kernel), w_Office_needState, ⟨⟨by decide +kernel, by decide +kernel⟩, by decide +kernel⟩⟩
theorem kV_Office_134 : am_kV "CrewOffice" 134 5 y_Trip_put u_Trip_put 2 := ⟨List.mem_of_getElem? (i := 825) (by decide +kernel), ⟨List.mem_of_getElem? (i := 491) (by decide +kernel), List.mem_of_getElem? (i := 492) (by decide +kernel)⟩, List.mem_of_getElem? (i := 60) (by decide +kernel), w_Trip_put, ⟨⟨by decide +kernel, by decide +kernel⟩, by decide +kernel⟩⟩
set_option maxHeartbeats 4000000 in
theorem s_Office_chain_0 {rc : Nat → Nat → Int32 → Int32 → am_M → Option ((Int32 ⊕ Nat) × am_M)} {res : Int32 ⊕ Nat} {M' : am_M} (ih_0 : ∀ (r0 : Nat) (x1 : Int32) (s0 : Int32) (M : am_M), rc 0 r0 x1 s0 M = some (res, M') → AW u_Office_chain R_Office_chain 1 6 30 [(0, .ref r0), (1, .int x1)] [.int s0] M (fun r M2 => r = am_rI res ∧ M2 = M')) : ∀ (r0 : Nat) (x1 : Int32) (s0 : Int32) (M : am_M), a_Office_chain_0 rc r0 x1 s0 M = some (res, M') → AW u_Office_chain R_Office_chain 1 6 30 [(0, .ref r0), (1, .int x1)] [.int s0] M (fun r M2 => r = am_rI res ∧ M2 = M') := by
  intro r0 x1 s0 M h
  unfold a_Office_chain_0 at h
  obtain ⟨⟨t30, M30⟩, e_t30, h⟩ := q_bind h
  cases t30 with
  | inr kx =>
    cases h
    exact aw_cSx (As := [.int s0]) (rest := []) d_Office_chain_30 kS_Office_131 ⟨Nat.le_of_ble_eq_true rfl, Nat.le_of_ble_eq_true rfl, Nat.le_of_ble_eq_true rfl, Nat.le_of_ble_eq_true rfl⟩ rfl rfl (Nat.le_of_ble_eq_true rfl) (mt_Office_needState e_t30) rfl ⟨rfl, rfl⟩
  | inl vx =>
    dsimp only [q_try] at h
    refine aw_cS (v := none) (As := [.int s0]) (rest := []) (st' := []) d_Office_chain_30 kS_Office_131 ⟨Nat.le_of_ble_eq_true rfl, Nat.le_of_ble_eq_true rfl, Nat.le_of_ble_eq_true rfl, Nat.le_of_ble_eq_true rfl⟩ rfl rfl (Nat.le_of_ble_eq_true rfl) rfl (mt_Office_needState e_t30) ?_
    refine aw_aload_n d_Office_chain_33 rfl rfl ?_
    obtain ⟨t34, e_t34, h⟩ := q_bind h
    refine aw_gtr d_Office_chain_34 fl_Office_21 (Or.inl ⟨_, rfl⟩) e_t34 ?_
    refine aw_aload_n d_Office_chain_37 rfl rfl ?_
    obtain ⟨t38, e_t38, h⟩ := q_bind h
    refine aw_gtr d_Office_chain_38 fl_Office_21 (Or.inl ⟨_, rfl⟩) e_t38 ?_
    obtain ⟨t41, e_t41, h⟩ := q_bind h
    refine aw_gtr d_Office_chain_41 fl_Office_122 (Or.inl ⟨_, rfl⟩) e_t41 ?_
    obtain ⟨t44, e_t44, h⟩ := q_bind h
    refine aw_gti d_Office_chain_44 fl_Office_126 (Or.inl rfl) e_t44 ?_
    refine aw_iload_n d_Office_chain_47 rfl rfl ?_
    obtain ⟨o48, e_o48, h⟩ := q_bind h
    obtain ⟨⟨t48, M48⟩, e_t48, h⟩ := q_bind h
    dsimp only at h
    refine aw_cV (v := none) (As := [.int t44, .int x1]) (rest := []) (st' := []) d_Office_chain_48 kV_Office_134 (q_ob_spec e_o48).1 (q_ob_spec e_o48).2 ⟨Nat.le_of_ble_eq_true rfl, Nat.le_of_ble_eq_true rfl, Nat.le_of_ble_eq_true rfl, Nat.le_of_ble_eq_true rfl⟩ rfl rfl (Nat.le_of_ble_eq_true rfl) rfl (mt_Trip_put e_t48) ?_
    refine aw_aload_n d_Office_chain_51 rfl rfl ?_
    obtain ⟨t52, e_t52, h⟩ := q_bind h
    refine aw_gtr d_Office_chain_52 fl_Office_21 (Or.inl ⟨_, rfl⟩) e_t52 ?_
    obtain ⟨t55, e_t55, h⟩ := q_bind h
    refine aw_gtr d_Office_chain_55 fl_Office_122 (Or.inl ⟨_, rfl⟩) e_t55 ?_
    obtain ⟨t58, e_t58, h⟩ := q_bind h
    refine aw_gti d_Office_chain_58 fl_Office_126 (Or.inl rfl) e_t58 ?_
    cases h
    exact aw_ireturn d_Office_chain_61 rfl (Nat.le_of_ble_eq_true rfl) (Nat.le_of_ble_eq_true rfl) ⟨rfl, rfl⟩
theorem l_Office_chain {res : Int32 ⊕ Nat} {M' : am_M} : ∀ F : Nat, (∀ (r0 : Nat) (x1 : Int32) (s0 : Int32) (M : am_M), g_Office_chain F 0 r0 x1 s0 M = some (res, M') → AW u_Office_chain R_Office_chain 1 6 30 [(0, .ref r0), (1, .int x1)] [.int s0] M (fun r M2 => r = am_rI res ∧ M2 = M')) := by
  intro F
  induction F with
  | zero => exact fun _ _ _ _  h => (by cases h)
  | succ F ih =>
    have ih0 := ih
    exact s_Office_chain_0 ih0
set_option maxHeartbeats 4000000 in
theorem mt_Office_chain {M : am_M} {a0 : Nat} {a1 : Int32} {res : Int32 ⊕ Nat} {M' : am_M} (h : f_Office_chain M a0 a1 = some (res, M')) : AMet y_Office_chain u_Office_chain R_Office_chain [.ref a0, .int a1] M (fun r M2 => r = am_rI res ∧ M2 = M') := by
  refine am_met (by decide +kernel) w_Office_chain rfl rfl (Nat.le_of_ble_eq_true rfl) ?_
  show AW u_Office_chain R_Office_chain 0 0 0 [(0, .ref a0), (1, .int a1)] [] M (fun r M2 => r = am_rI res ∧ M2 = M')
  have ih_0 := (l_Office_chain (res := res) (M' := M') 1000000000)
  unfold f_Office_chain at h
  unfold e_Office_chain at h
  generalize g_Office_chain 1000000000 = rc at h ih_0
  refine aw_iload_n d_Office_chain_0 rfl rfl ?_
  refine aw_iconst (v := 0) d_Office_chain_1 (by decide) ?_
  refine aw_bipush (v := 11) d_Office_chain_2 (by decide) ?_
  obtain ⟨t4, e_t4, h⟩ := q_bind h
  refine aw_cS (v := (some (.int t4))) (As := [.int a1, .int (0 : Int32), .int (11 : Int32)]) (rest := []) (st' := [.int t4]) d_Office_chain_4 kS_Office_50 ⟨Nat.le_of_ble_eq_true rfl, Nat.le_of_ble_eq_true rfl, Nat.le_of_ble_eq_true rfl, Nat.le_of_ble_eq_true rfl⟩ rfl rfl (Nat.le_of_ble_eq_true rfl) rfl (mt_Office_isWithin e_t4) ?_
  obtain ⟨⟨t7, M7⟩, e_t7, h⟩ := q_bind h
  cases t7 with
  | inr kx =>
    cases h
    exact aw_cSx (As := [.int t4]) (rest := []) d_Office_chain_7 kS_Office_54 ⟨Nat.le_of_ble_eq_true rfl, Nat.le_of_ble_eq_true rfl, Nat.le_of_ble_eq_true rfl, Nat.le_of_ble_eq_true rfl⟩ rfl rfl (Nat.le_of_ble_eq_true rfl) (mt_Office_needArgument e_t7) rfl ⟨rfl, rfl⟩
  | inl vx =>
    dsimp only [q_try] at h
    refine aw_cS (v := none) (As := [.int t4]) (rest := []) (st' := []) d_Office_chain_7 kS_Office_54 ⟨Nat.le_of_ble_eq_true rfl, Nat.le_of_ble_eq_true rfl, Nat.le_of_ble_eq_true rfl, Nat.le_of_ble_eq_true rfl⟩ rfl rfl (Nat.le_of_ble_eq_true rfl) rfl (mt_Office_needArgument e_t7) ?_
    refine aw_aload_n d_Office_chain_10 rfl rfl ?_
    obtain ⟨t11, e_t11, h⟩ := q_bind h
    refine aw_gtr d_Office_chain_11 fl_Office_21 (Or.inl ⟨_, rfl⟩) e_t11 ?_
    obtain ⟨t14, e_t14, h⟩ := q_bind h
    refine aw_gtr d_Office_chain_14 fl_Office_122 (Or.inl ⟨_, rfl⟩) e_t14 ?_
    obtain ⟨t17, e_t17, h⟩ := q_bind h
    refine aw_gti d_Office_chain_17 fl_Office_126 (Or.inl rfl) e_t17 ?_
    refine aw_bipush (v := 8) d_Office_chain_20 (by decide) ?_
    refine aw_icmp_ge (tgt := 29) d_Office_chain_22 (by decide) (fun hc => ?_) (fun hc => ?_)
    · rw [if_pos hc] at h
      refine aw_iconst (v := 0) d_Office_chain_29 (by decide) ?_
      exact aw_pick [0, 1] rfl (ih_0 _ _ _ _ h)
    · rw [if_neg hc] at h
      refine aw_iconst (v := 1) d_Office_chain_25 (by decide) ?_
      refine aw_goto (tgt := 30) d_Office_chain_26 (by decide) ?_
      exact aw_pick [0, 1] rfl (ih_0 _ _ _ _ h)
def y_Office_local : MethodName := ⟨"CrewOffice", "local", "(II)I"⟩
def u_Office_local : am_U := ("CrewOffice", "local", prog_1_method_22_code, 3, (some .int), [])
def R_Office_local : Room := { frames := 9, cells := 2, slots := 12, locals := 220 }
theorem d_Office_local_0 : decode u_Office_local.2.2.1 0 = .ok (.iload_n 1, 1) := by decide +kernel
theorem d_Office_local_1 : decode u_Office_local.2.2.1 1 = .ok (.iconst 0, 1) := by decide +kernel
theorem d_Office_local_2 : decode u_Office_local.2.2.1 2 = .ok (.iconst 4, 1) := by decide +kernel
theorem d_Office_local_3 : decode u_Office_local.2.2.1 3 = .ok (.invokestatic 50, 3) := by decide +kernel
theorem d_Office_local_6 : decode u_Office_local.2.2.1 6 = .ok (.invokestatic 54, 3) := by decide +kernel
theorem d_Office_local_9 : decode u_Office_local.2.2.1 9 = .ok (.iload_n 2, 1) := by decide +kernel
theorem d_Office_local_10 : decode u_Office_local.2.2.1 10 = .ok (.iconst 0, 1) := by decide +kernel
theorem d_Office_local_11 : decode u_Office_local.2.2.1 11 = .ok (.sipush 20160, 3) := by decide +kernel
theorem d_Office_local_14 : decode u_Office_local.2.2.1 14 = .ok (.invokestatic 50, 3) := by decide +kernel
theorem d_Office_local_17 : decode u_Office_local.2.2.1 17 = .ok (.invokestatic 54, 3) := by decide +kernel
theorem d_Office_local_20 : decode u_Office_local.2.2.1 20 = .ok (.aload_n 0, 1) := by decide +kernel
theorem d_Office_local_21 : decode u_Office_local.2.2.1 21 = .ok (.getfield 10, 3) := by decide +kernel
theorem d_Office_local_24 : decode u_Office_local.2.2.1 24 = .ok (.getfield 58, 3) := by decide +kernel
theorem d_Office_local_27 : decode u_Office_local.2.2.1 27 = .ok (.iload_n 1, 1) := by decide +kernel
theorem d_Office_local_28 : decode u_Office_local.2.2.1 28 = .ok (.aaload, 1) := by decide +kernel
theorem d_Office_local_29 : decode u_Office_local.2.2.1 29 = .ok (.iload_n 2, 1) := by decide +kernel
theorem d_Office_local_30 : decode u_Office_local.2.2.1 30 = .ok (.invokevirtual 214, 3) := by decide +kernel
theorem d_Office_local_33 : decode u_Office_local.2.2.1 33 = .ok (.ireturn, 1) := by decide +kernel
theorem w_Office_local : am_code y_Office_local u_Office_local ∈ am_ws := am_mem (List.mem_of_getElem? (i := 979) (by decide +kernel)) rfl
def e_Office_local (M : am_M) (a0 : Nat) (a1 : Int32) (a2 : Int32) : Option ((Int32 ⊕ Nat) × am_M) := (f_Office_isWithin M a1 (0 : Int32) (4 : Int32)).bind (fun t3 => (f_Office_needArgument M t3).bind (fun p6 => q_try p6 (fun _ M6 => (f_Office_isWithin M6 a2 (0 : Int32) (20160 : Int32)).bind (fun t14 => (f_Office_needArgument M6 t14).bind (fun p17 => q_try p17 (fun _ M17 => (q_gtr M17 a0 9 0).bind (fun t21 => (q_gtr M17 t21 3 0).bind (fun t24 => (q_ldr M17 t24 a1).bind (fun t28 => (q_ob M17 t28 0).bind (fun o30 => (f_Clock_localOf M17 t28 a2).bind (fun t30 => some (.inl t30, M17))))))))))))
def f_Office_local (M : am_M) (a0 : Nat) (a1 : Int32) (a2 : Int32) : Option ((Int32 ⊕ Nat) × am_M) := e_Office_local M a0 a1 a2
theorem fl_Office_10 : am_fl "CrewOffice" 10 9 0 := ⟨by decide, by decide, List.mem_of_getElem? (i := 429) (by decide +kernel)⟩
theorem fl_Office_58 : am_fl "CrewOffice" 58 3 0 := ⟨by decide, by decide, List.mem_of_getElem? (i := 218) (by decide +kernel)⟩
theorem kV_Office_214 : am_kV "CrewOffice" 214 0 y_Clock_localOf u_Clock_localOf 1 := ⟨List.mem_of_getElem? (i := 980) (by decide +kernel), ⟨List.mem_of_getElem? (i := 537) (by decide +kernel), List.mem_of_getElem? (i := 538) (by decide +kernel)⟩, List.mem_of_getElem? (i := 56) (by decide +kernel), w_Clock_localOf, ⟨⟨by decide +kernel, by decide +kernel⟩, by decide +kernel⟩⟩
set_option maxHeartbeats 4000000 in
theorem mt_Office_local {M : am_M} {a0 : Nat} {a1 : Int32} {a2 : Int32} {res : Int32 ⊕ Nat} {M' : am_M} (h : f_Office_local M a0 a1 a2 = some (res, M')) : AMet y_Office_local u_Office_local R_Office_local [.ref a0, .int a1, .int a2] M (fun r M2 => r = am_rI res ∧ M2 = M') := by
  refine am_met (by decide +kernel) w_Office_local rfl rfl (Nat.le_of_ble_eq_true rfl) ?_
  show AW u_Office_local R_Office_local 0 0 0 [(0, .ref a0), (1, .int a1), (2, .int a2)] [] M (fun r M2 => r = am_rI res ∧ M2 = M')
  unfold f_Office_local at h
  unfold e_Office_local at h
  refine aw_iload_n d_Office_local_0 rfl rfl ?_
  refine aw_iconst (v := 0) d_Office_local_1 (by decide) ?_
  refine aw_iconst (v := 4) d_Office_local_2 (by decide) ?_
  obtain ⟨t3, e_t3, h⟩ := q_bind h
  refine aw_cS (v := (some (.int t3))) (As := [.int a1, .int (0 : Int32), .int (4 : Int32)]) (rest := []) (st' := [.int t3]) d_Office_local_3 kS_Office_50 ⟨Nat.le_of_ble_eq_true rfl, Nat.le_of_ble_eq_true rfl, Nat.le_of_ble_eq_true rfl, Nat.le_of_ble_eq_true rfl⟩ rfl rfl (Nat.le_of_ble_eq_true rfl) rfl (mt_Office_isWithin e_t3) ?_
  obtain ⟨⟨t6, M6⟩, e_t6, h⟩ := q_bind h
  cases t6 with
  | inr kx =>
    cases h
    exact aw_cSx (As := [.int t3]) (rest := []) d_Office_local_6 kS_Office_54 ⟨Nat.le_of_ble_eq_true rfl, Nat.le_of_ble_eq_true rfl, Nat.le_of_ble_eq_true rfl, Nat.le_of_ble_eq_true rfl⟩ rfl rfl (Nat.le_of_ble_eq_true rfl) (mt_Office_needArgument e_t6) rfl ⟨rfl, rfl⟩
  | inl vx =>
    dsimp only [q_try] at h
    refine aw_cS (v := none) (As := [.int t3]) (rest := []) (st' := []) d_Office_local_6 kS_Office_54 ⟨Nat.le_of_ble_eq_true rfl, Nat.le_of_ble_eq_true rfl, Nat.le_of_ble_eq_true rfl, Nat.le_of_ble_eq_true rfl⟩ rfl rfl (Nat.le_of_ble_eq_true rfl) rfl (mt_Office_needArgument e_t6) ?_
    refine aw_iload_n d_Office_local_9 rfl rfl ?_
    refine aw_iconst (v := 0) d_Office_local_10 (by decide) ?_
    refine aw_sipush (v := 20160) d_Office_local_11 (by decide) ?_
    obtain ⟨t14, e_t14, h⟩ := q_bind h
    refine aw_cS (v := (some (.int t14))) (As := [.int a2, .int (0 : Int32), .int (20160 : Int32)]) (rest := []) (st' := [.int t14]) d_Office_local_14 kS_Office_50 ⟨Nat.le_of_ble_eq_true rfl, Nat.le_of_ble_eq_true rfl, Nat.le_of_ble_eq_true rfl, Nat.le_of_ble_eq_true rfl⟩ rfl rfl (Nat.le_of_ble_eq_true rfl) rfl (mt_Office_isWithin e_t14) ?_
    obtain ⟨⟨t17, M17⟩, e_t17, h⟩ := q_bind h
    cases t17 with
    | inr kx =>
      cases h
      exact aw_cSx (As := [.int t14]) (rest := []) d_Office_local_17 kS_Office_54 ⟨Nat.le_of_ble_eq_true rfl, Nat.le_of_ble_eq_true rfl, Nat.le_of_ble_eq_true rfl, Nat.le_of_ble_eq_true rfl⟩ rfl rfl (Nat.le_of_ble_eq_true rfl) (mt_Office_needArgument e_t17) rfl ⟨rfl, rfl⟩
    | inl vx =>
      dsimp only [q_try] at h
      refine aw_cS (v := none) (As := [.int t14]) (rest := []) (st' := []) d_Office_local_17 kS_Office_54 ⟨Nat.le_of_ble_eq_true rfl, Nat.le_of_ble_eq_true rfl, Nat.le_of_ble_eq_true rfl, Nat.le_of_ble_eq_true rfl⟩ rfl rfl (Nat.le_of_ble_eq_true rfl) rfl (mt_Office_needArgument e_t17) ?_
      refine aw_aload_n d_Office_local_20 rfl rfl ?_
      obtain ⟨t21, e_t21, h⟩ := q_bind h
      refine aw_gtr d_Office_local_21 fl_Office_10 (Or.inl ⟨_, rfl⟩) e_t21 ?_
      obtain ⟨t24, e_t24, h⟩ := q_bind h
      refine aw_gtr d_Office_local_24 fl_Office_58 (Or.inr ⟨_, rfl⟩) e_t24 ?_
      refine aw_iload_n d_Office_local_27 rfl rfl ?_
      obtain ⟨t28, e_t28, h⟩ := q_bind h
      refine aw_ldr d_Office_local_28 e_t28 ?_
      refine aw_iload_n d_Office_local_29 rfl rfl ?_
      obtain ⟨o30, e_o30, h⟩ := q_bind h
      obtain ⟨t30, e_t30, h⟩ := q_bind h
      refine aw_cV (v := (some (.int t30))) (As := [.int a2]) (rest := []) (st' := [.int t30]) d_Office_local_30 kV_Office_214 (q_ob_spec e_o30).1 (q_ob_spec e_o30).2 ⟨Nat.le_of_ble_eq_true rfl, Nat.le_of_ble_eq_true rfl, Nat.le_of_ble_eq_true rfl, Nat.le_of_ble_eq_true rfl⟩ rfl rfl (Nat.le_of_ble_eq_true rfl) rfl (mt_Clock_localOf e_t30) ?_
      cases h
      exact aw_ireturn d_Office_local_33 rfl (Nat.le_of_ble_eq_true rfl) (Nat.le_of_ble_eq_true rfl) ⟨rfl, rfl⟩
def y_Office_isListed : MethodName := ⟨"CrewOffice", "isListed", "(I)Z"⟩
def u_Office_isListed : am_U := ("CrewOffice", "isListed", prog_1_method_24_code, 2, (some .boolean), [])
def R_Office_isListed : Room := { frames := 1, cells := 0, slots := 0, locals := 22 }
theorem d_Office_isListed_0 : decode u_Office_isListed.2.2.1 0 = .ok (.iload_n 1, 1) := by decide +kernel
theorem d_Office_isListed_1 : decode u_Office_isListed.2.2.1 1 = .ok (.iconst 0, 1) := by decide +kernel
theorem d_Office_isListed_2 : decode u_Office_isListed.2.2.1 2 = .ok (.aload_n 0, 1) := by decide +kernel
theorem d_Office_isListed_3 : decode u_Office_isListed.2.2.1 3 = .ok (.getfield 28, 3) := by decide +kernel
theorem d_Office_isListed_6 : decode u_Office_isListed.2.2.1 6 = .ok (.getfield 168, 3) := by decide +kernel
theorem d_Office_isListed_9 : decode u_Office_isListed.2.2.1 9 = .ok (.iconst 1, 1) := by decide +kernel
theorem d_Office_isListed_10 : decode u_Office_isListed.2.2.1 10 = .ok (.isub, 1) := by decide +kernel
theorem d_Office_isListed_11 : decode u_Office_isListed.2.2.1 11 = .ok (.invokestatic 50, 3) := by decide +kernel
theorem d_Office_isListed_14 : decode u_Office_isListed.2.2.1 14 = .ok (.ireturn, 1) := by decide +kernel
theorem w_Office_isListed : am_code y_Office_isListed u_Office_isListed ∈ am_ws := am_mem (List.mem_of_getElem? (i := 860) (by decide +kernel)) rfl
def e_Office_isListed (M : am_M) (a0 : Nat) (a1 : Int32) : Option (Int32) := (q_gtr M a0 9 2).bind (fun t3 => (q_gti M t3 6 3).bind (fun t6 => (f_Office_isWithin M a1 (0 : Int32) (t6 - (1 : Int32))).bind (fun t11 => (q_z t11).bind (fun z14 => some z14))))
def f_Office_isListed (M : am_M) (a0 : Nat) (a1 : Int32) : Option (Int32) := e_Office_isListed M a0 a1
theorem fl_Office_28 : am_fl "CrewOffice" 28 9 2 := ⟨by decide, by decide, List.mem_of_getElem? (i := 431) (by decide +kernel)⟩
theorem fl_Office_168 : am_fl "CrewOffice" 168 6 3 := ⟨by decide, by decide, List.mem_of_getElem? (i := 352) (by decide +kernel)⟩
set_option maxHeartbeats 4000000 in
theorem mt_Office_isListed {M : am_M} {a0 : Nat} {a1 : Int32} {res : Int32} (h : f_Office_isListed M a0 a1 = some res) : AMet y_Office_isListed u_Office_isListed R_Office_isListed [.ref a0, .int a1] M (fun r M2 => r = .inl (some (.int res)) ∧ M2 = M) := by
  refine am_met (by decide +kernel) w_Office_isListed rfl rfl (Nat.le_of_ble_eq_true rfl) ?_
  show AW u_Office_isListed R_Office_isListed 0 0 0 [(0, .ref a0), (1, .int a1)] [] M (fun r M2 => r = .inl (some (.int res)) ∧ M2 = M)
  unfold f_Office_isListed at h
  unfold e_Office_isListed at h
  refine aw_iload_n d_Office_isListed_0 rfl rfl ?_
  refine aw_iconst (v := 0) d_Office_isListed_1 (by decide) ?_
  refine aw_aload_n d_Office_isListed_2 rfl rfl ?_
  obtain ⟨t3, e_t3, h⟩ := q_bind h
  refine aw_gtr d_Office_isListed_3 fl_Office_28 (Or.inl ⟨_, rfl⟩) e_t3 ?_
  obtain ⟨t6, e_t6, h⟩ := q_bind h
  refine aw_gti d_Office_isListed_6 fl_Office_168 (Or.inl rfl) e_t6 ?_
  refine aw_iconst (v := 1) d_Office_isListed_9 (by decide) ?_
  refine aw_isub d_Office_isListed_10 ?_
  obtain ⟨t11, e_t11, h⟩ := q_bind h
  refine aw_cS (v := (some (.int t11))) (As := [.int a1, .int (0 : Int32), .int (t6 - (1 : Int32))]) (rest := []) (st' := [.int t11]) d_Office_isListed_11 kS_Office_50 ⟨Nat.le_of_ble_eq_true rfl, Nat.le_of_ble_eq_true rfl, Nat.le_of_ble_eq_true rfl, Nat.le_of_ble_eq_true rfl⟩ rfl rfl (Nat.le_of_ble_eq_true rfl) rfl (mt_Office_isWithin e_t11) ?_
  obtain ⟨z14, e_z14, h⟩ := q_bind h
  obtain ⟨hz, hn⟩ := q_z_spec e_z14
  cases h
  rw [hz]
  exact aw_zreturn d_Office_isListed_14 rfl hn (Nat.le_of_ble_eq_true rfl) (Nat.le_of_ble_eq_true rfl) ⟨rfl, rfl⟩
def y_Model_uncovers : MethodName := ⟨"CrewOfficeModel", "uncovers", "()V"⟩
def u_Model_uncovers : am_U := ("CrewOfficeModel", "uncovers", prog_12_method_6_code, 2, none, [])
def R_Model_uncovers : Room := { frames := 1, cells := 0, slots := 0, locals := 21 }
theorem d_Model_uncovers_0 : decode u_Model_uncovers.2.2.1 0 = .ok (.aload_n 0, 1) := by decide +kernel
theorem d_Model_uncovers_1 : decode u_Model_uncovers.2.2.1 1 = .ok (.iconst 0, 1) := by decide +kernel
theorem d_Model_uncovers_2 : decode u_Model_uncovers.2.2.1 2 = .ok (.putfield 161, 3) := by decide +kernel
theorem d_Model_uncovers_5 : decode u_Model_uncovers.2.2.1 5 = .ok (.iconst 0, 1) := by decide +kernel
theorem d_Model_uncovers_6 : decode u_Model_uncovers.2.2.1 6 = .ok (.istore_n 1, 1) := by decide +kernel
theorem d_Model_uncovers_7 : decode u_Model_uncovers.2.2.1 7 = .ok (.iload_n 1, 1) := by decide +kernel
theorem d_Model_uncovers_8 : decode u_Model_uncovers.2.2.1 8 = .ok (.bipush 40, 2) := by decide +kernel
theorem d_Model_uncovers_10 : decode u_Model_uncovers.2.2.1 10 = .ok (.if_icmp .ge 16, 3) := by decide +kernel
theorem d_Model_uncovers_13 : decode u_Model_uncovers.2.2.1 13 = .ok (.aload_n 0, 1) := by decide +kernel
theorem d_Model_uncovers_14 : decode u_Model_uncovers.2.2.1 14 = .ok (.getfield 124, 3) := by decide +kernel
theorem d_Model_uncovers_17 : decode u_Model_uncovers.2.2.1 17 = .ok (.iload_n 1, 1) := by decide +kernel
theorem d_Model_uncovers_18 : decode u_Model_uncovers.2.2.1 18 = .ok (.iconst 0, 1) := by decide +kernel
theorem d_Model_uncovers_19 : decode u_Model_uncovers.2.2.1 19 = .ok (.bastore, 1) := by decide +kernel
theorem d_Model_uncovers_20 : decode u_Model_uncovers.2.2.1 20 = .ok (.iinc 1 1, 3) := by decide +kernel
theorem d_Model_uncovers_23 : decode u_Model_uncovers.2.2.1 23 = .ok (.goto (-16), 3) := by decide +kernel
theorem d_Model_uncovers_26 : decode u_Model_uncovers.2.2.1 26 = .ok (.aload_n 0, 1) := by decide +kernel
theorem d_Model_uncovers_27 : decode u_Model_uncovers.2.2.1 27 = .ok (.invokevirtual 165, 3) := by decide +kernel
theorem d_Model_uncovers_30 : decode u_Model_uncovers.2.2.1 30 = .ok (.return_, 1) := by decide +kernel
theorem w_Model_uncovers : am_code y_Model_uncovers u_Model_uncovers ∈ am_ws := am_mem (List.mem_of_getElem? (i := 1192) (by decide +kernel)) rfl
def a_Model_uncovers_0 (rc : Nat → Nat → Int32 → am_M → Option (Unit × am_M)) (r0 : Nat) (x1 : Int32) (M : am_M) : Option (Unit × am_M) := if (40 : Int32) ≤ x1 then ((q_ob M r0 10).bind (fun o27 => (f_Model_unawards M r0).bind (fun p27 => some ((), p27.2)))) else ((q_gtr M r0 10 42).bind (fun t14 => (q_stz M t14 x1 (0 : Int32)).bind (fun M19 => rc 0 r0 (x1 + (1 : Int32)) M19)))
def g_Model_uncovers : Nat → Nat → Nat → Int32 → am_M → Option (Unit × am_M)
  | 0, _, _, _, _ => none
  | F + 1, 0, r0, x1, M => a_Model_uncovers_0 (g_Model_uncovers F) r0 x1 M
  | _ + 1, _ + 1, _, _, _ => none
def e_Model_uncovers (rc : Nat → Nat → Int32 → am_M → Option (Unit × am_M)) (M : am_M) (a0 : Nat) : Option (Unit × am_M) := (q_ptz M a0 10 41 (0 : Int32)).bind (fun M2 => rc 0 a0 (0 : Int32) M2)
def f_Model_uncovers (M : am_M) (a0 : Nat) : Option (Unit × am_M) := e_Model_uncovers (g_Model_uncovers 1000000000) M a0
set_option maxHeartbeats 4000000 in
theorem s_Model_uncovers_0 {rc : Nat → Nat → Int32 → am_M → Option (Unit × am_M)} {res : Unit} {M' : am_M} (ih_0 : ∀ (r0 : Nat) (x1 : Int32) (M : am_M), rc 0 r0 x1 M = some (res, M') → AW u_Model_uncovers R_Model_uncovers 0 0 7 [(0, .ref r0), (1, .int x1)] [] M (fun r M2 => r = .inl none ∧ M2 = M')) : ∀ (r0 : Nat) (x1 : Int32) (M : am_M), a_Model_uncovers_0 rc r0 x1 M = some (res, M') → AW u_Model_uncovers R_Model_uncovers 0 0 7 [(0, .ref r0), (1, .int x1)] [] M (fun r M2 => r = .inl none ∧ M2 = M') := by
  intro r0 x1 M h
  unfold a_Model_uncovers_0 at h
  refine aw_iload_n d_Model_uncovers_7 rfl rfl ?_
  refine aw_bipush (v := 40) d_Model_uncovers_8 (by decide) ?_
  refine aw_icmp_ge (tgt := 26) d_Model_uncovers_10 (by decide) (fun hc => ?_) (fun hc => ?_)
  · rw [if_pos hc] at h
    refine aw_aload_n d_Model_uncovers_26 rfl rfl ?_
    obtain ⟨o27, e_o27, h⟩ := q_bind h
    obtain ⟨⟨t27, M27⟩, e_t27, h⟩ := q_bind h
    dsimp only at h
    refine aw_cV (v := none) (As := []) (rest := []) (st' := []) d_Model_uncovers_27 kV_Model_165 (q_ob_spec e_o27).1 (q_ob_spec e_o27).2 ⟨Nat.le_of_ble_eq_true rfl, Nat.le_of_ble_eq_true rfl, Nat.le_of_ble_eq_true rfl, Nat.le_of_ble_eq_true rfl⟩ rfl rfl (Nat.le_of_ble_eq_true rfl) rfl (mt_Model_unawards e_t27) ?_
    cases h
    exact aw_vreturn d_Model_uncovers_30 rfl (Nat.le_of_ble_eq_true rfl) (Nat.le_of_ble_eq_true rfl) ⟨rfl, rfl⟩
  · rw [if_neg hc] at h
    refine aw_aload_n d_Model_uncovers_13 rfl rfl ?_
    obtain ⟨t14, e_t14, h⟩ := q_bind h
    refine aw_gtr d_Model_uncovers_14 fl_Model_124 (Or.inr ⟨_, rfl⟩) e_t14 ?_
    refine aw_iload_n d_Model_uncovers_17 rfl rfl ?_
    refine aw_iconst (v := 0) d_Model_uncovers_18 (by decide) ?_
    obtain ⟨M19, e_M19, h⟩ := q_bind h
    refine aw_stz d_Model_uncovers_19 e_M19 ?_
    refine aw_iinc (v := (x1 + (1 : Int32))) (ls' := [(1, .int _), (0, .ref _)]) d_Model_uncovers_20 rfl rfl (Nat.le_of_ble_eq_true rfl) rfl ?_
    refine aw_goto (tgt := 7) d_Model_uncovers_23 (by decide) ?_
    exact aw_pick [1, 0] rfl (ih_0 _ _ _ h)
theorem l_Model_uncovers {res : Unit} {M' : am_M} : ∀ F : Nat, (∀ (r0 : Nat) (x1 : Int32) (M : am_M), g_Model_uncovers F 0 r0 x1 M = some (res, M') → AW u_Model_uncovers R_Model_uncovers 0 0 7 [(0, .ref r0), (1, .int x1)] [] M (fun r M2 => r = .inl none ∧ M2 = M')) := by
  intro F
  induction F with
  | zero => exact fun _ _ _  h => (by cases h)
  | succ F ih =>
    have ih0 := ih
    exact s_Model_uncovers_0 ih0
set_option maxHeartbeats 4000000 in
theorem mt_Model_uncovers {M : am_M} {a0 : Nat} {res : Unit} {M' : am_M} (h : f_Model_uncovers M a0 = some (res, M')) : AMet y_Model_uncovers u_Model_uncovers R_Model_uncovers [.ref a0] M (fun r M2 => r = .inl none ∧ M2 = M') := by
  refine am_met (by decide +kernel) w_Model_uncovers rfl rfl (Nat.le_of_ble_eq_true rfl) ?_
  show AW u_Model_uncovers R_Model_uncovers 0 0 0 [(0, .ref a0)] [] M (fun r M2 => r = .inl none ∧ M2 = M')
  have ih_0 := (l_Model_uncovers (res := res) (M' := M') 1000000000)
  unfold f_Model_uncovers at h
  unfold e_Model_uncovers at h
  generalize g_Model_uncovers 1000000000 = rc at h ih_0
  refine aw_aload_n d_Model_uncovers_0 rfl rfl ?_
  refine aw_iconst (v := 0) d_Model_uncovers_1 (by decide) ?_
  obtain ⟨M2, e_M2, h⟩ := q_bind h
  refine aw_ptz d_Model_uncovers_2 fl_Model_161 rfl rfl e_M2 ?_
  refine aw_iconst (v := 0) d_Model_uncovers_5 (by decide) ?_
  refine aw_istore_n (ls' := [(1, .int _), (0, .ref _)]) d_Model_uncovers_6 rfl (Nat.le_of_ble_eq_true rfl) rfl ?_
  exact aw_pick [1, 0] rfl (ih_0 _ _ _ h)
def y_Model_judge : MethodName := ⟨"CrewOfficeModel", "judge", "(I)I"⟩
def u_Model_judge : am_U := ("CrewOfficeModel", "judge", prog_12_method_24_code, 4, (some .int), [])
def R_Model_judge : Room := { frames := 5, cells := 0, slots := 0, locals := 115 }
theorem d_Model_judge_0 : decode u_Model_judge.2.2.1 0 = .ok (.aload_n 0, 1) := by decide +kernel
theorem d_Model_judge_1 : decode u_Model_judge.2.2.1 1 = .ok (.invokevirtual 206, 3) := by decide +kernel
theorem d_Model_judge_4 : decode u_Model_judge.2.2.1 4 = .ok (.iconst 0, 1) := by decide +kernel
theorem d_Model_judge_5 : decode u_Model_judge.2.2.1 5 = .ok (.istore_n 2, 1) := by decide +kernel
theorem d_Model_judge_6 : decode u_Model_judge.2.2.1 6 = .ok (.iconst 0, 1) := by decide +kernel
theorem d_Model_judge_7 : decode u_Model_judge.2.2.1 7 = .ok (.istore_n 3, 1) := by decide +kernel
theorem d_Model_judge_8 : decode u_Model_judge.2.2.1 8 = .ok (.iload_n 3, 1) := by decide +kernel
theorem d_Model_judge_9 : decode u_Model_judge.2.2.1 9 = .ok (.iconst 4, 1) := by decide +kernel
theorem d_Model_judge_10 : decode u_Model_judge.2.2.1 10 = .ok (.if_icmp .ge 57, 3) := by decide +kernel
theorem d_Model_judge_13 : decode u_Model_judge.2.2.1 13 = .ok (.iload_n 2, 1) := by decide +kernel
theorem d_Model_judge_14 : decode u_Model_judge.2.2.1 14 = .ok (.ifCond .ne 41, 3) := by decide +kernel
theorem d_Model_judge_17 : decode u_Model_judge.2.2.1 17 = .ok (.aload_n 0, 1) := by decide +kernel
theorem d_Model_judge_18 : decode u_Model_judge.2.2.1 18 = .ok (.getfield 45, 3) := by decide +kernel
theorem d_Model_judge_21 : decode u_Model_judge.2.2.1 21 = .ok (.iload_n 3, 1) := by decide +kernel
theorem d_Model_judge_22 : decode u_Model_judge.2.2.1 22 = .ok (.baload, 1) := by decide +kernel
theorem d_Model_judge_23 : decode u_Model_judge.2.2.1 23 = .ok (.ifCond .eq 36, 3) := by decide +kernel
theorem d_Model_judge_26 : decode u_Model_judge.2.2.1 26 = .ok (.iload_n 1, 1) := by decide +kernel
theorem d_Model_judge_27 : decode u_Model_judge.2.2.1 27 = .ok (.ifCond .lt 8, 3) := by decide +kernel
theorem d_Model_judge_30 : decode u_Model_judge.2.2.1 30 = .ok (.iload_n 1, 1) := by decide +kernel
theorem d_Model_judge_31 : decode u_Model_judge.2.2.1 31 = .ok (.iload_n 3, 1) := by decide +kernel
theorem d_Model_judge_32 : decode u_Model_judge.2.2.1 32 = .ok (.if_icmp .ne 27, 3) := by decide +kernel
theorem d_Model_judge_35 : decode u_Model_judge.2.2.1 35 = .ok (.aload_n 0, 1) := by decide +kernel
theorem d_Model_judge_36 : decode u_Model_judge.2.2.1 36 = .ok (.getfield 48, 3) := by decide +kernel
theorem d_Model_judge_39 : decode u_Model_judge.2.2.1 39 = .ok (.iload_n 3, 1) := by decide +kernel
theorem d_Model_judge_40 : decode u_Model_judge.2.2.1 40 = .ok (.iaload, 1) := by decide +kernel
theorem d_Model_judge_41 : decode u_Model_judge.2.2.1 41 = .ok (.aload_n 0, 1) := by decide +kernel
theorem d_Model_judge_42 : decode u_Model_judge.2.2.1 42 = .ok (.getfield 30, 3) := by decide +kernel
theorem d_Model_judge_45 : decode u_Model_judge.2.2.1 45 = .ok (.aload_n 0, 1) := by decide +kernel
theorem d_Model_judge_46 : decode u_Model_judge.2.2.1 46 = .ok (.getfield 87, 3) := by decide +kernel
theorem d_Model_judge_49 : decode u_Model_judge.2.2.1 49 = .ok (.iconst 0, 1) := by decide +kernel
theorem d_Model_judge_50 : decode u_Model_judge.2.2.1 50 = .ok (.iaload, 1) := by decide +kernel
theorem d_Model_judge_51 : decode u_Model_judge.2.2.1 51 = .ok (.iaload, 1) := by decide +kernel
theorem d_Model_judge_52 : decode u_Model_judge.2.2.1 52 = .ok (.if_icmp .ne 7, 3) := by decide +kernel
theorem d_Model_judge_55 : decode u_Model_judge.2.2.1 55 = .ok (.iconst 1, 1) := by decide +kernel
theorem d_Model_judge_56 : decode u_Model_judge.2.2.1 56 = .ok (.goto 4, 3) := by decide +kernel
theorem d_Model_judge_59 : decode u_Model_judge.2.2.1 59 = .ok (.iconst 0, 1) := by decide +kernel
theorem d_Model_judge_60 : decode u_Model_judge.2.2.1 60 = .ok (.istore_n 2, 1) := by decide +kernel
theorem d_Model_judge_61 : decode u_Model_judge.2.2.1 61 = .ok (.iinc 3 1, 3) := by decide +kernel
theorem d_Model_judge_64 : decode u_Model_judge.2.2.1 64 = .ok (.goto (-56), 3) := by decide +kernel
theorem d_Model_judge_67 : decode u_Model_judge.2.2.1 67 = .ok (.iload_n 2, 1) := by decide +kernel
theorem d_Model_judge_68 : decode u_Model_judge.2.2.1 68 = .ok (.ifCond .ne 5, 3) := by decide +kernel
theorem d_Model_judge_71 : decode u_Model_judge.2.2.1 71 = .ok (.iconst 1, 1) := by decide +kernel
theorem d_Model_judge_72 : decode u_Model_judge.2.2.1 72 = .ok (.ireturn, 1) := by decide +kernel
theorem d_Model_judge_73 : decode u_Model_judge.2.2.1 73 = .ok (.iconst 1, 1) := by decide +kernel
theorem d_Model_judge_74 : decode u_Model_judge.2.2.1 74 = .ok (.istore_n 3, 1) := by decide +kernel
theorem d_Model_judge_75 : decode u_Model_judge.2.2.1 75 = .ok (.iload_n 3, 1) := by decide +kernel
theorem d_Model_judge_76 : decode u_Model_judge.2.2.1 76 = .ok (.aload_n 0, 1) := by decide +kernel
theorem d_Model_judge_77 : decode u_Model_judge.2.2.1 77 = .ok (.getfield 203, 3) := by decide +kernel
theorem d_Model_judge_80 : decode u_Model_judge.2.2.1 80 = .ok (.if_icmp .ge 72, 3) := by decide +kernel
theorem d_Model_judge_83 : decode u_Model_judge.2.2.1 83 = .ok (.aload_n 0, 1) := by decide +kernel
theorem d_Model_judge_84 : decode u_Model_judge.2.2.1 84 = .ok (.getfield 30, 3) := by decide +kernel
theorem d_Model_judge_87 : decode u_Model_judge.2.2.1 87 = .ok (.aload_n 0, 1) := by decide +kernel
theorem d_Model_judge_88 : decode u_Model_judge.2.2.1 88 = .ok (.getfield 87, 3) := by decide +kernel
theorem d_Model_judge_91 : decode u_Model_judge.2.2.1 91 = .ok (.iload_n 3, 1) := by decide +kernel
theorem d_Model_judge_92 : decode u_Model_judge.2.2.1 92 = .ok (.iaload, 1) := by decide +kernel
theorem d_Model_judge_93 : decode u_Model_judge.2.2.1 93 = .ok (.iaload, 1) := by decide +kernel
theorem d_Model_judge_94 : decode u_Model_judge.2.2.1 94 = .ok (.aload_n 0, 1) := by decide +kernel
theorem d_Model_judge_95 : decode u_Model_judge.2.2.1 95 = .ok (.getfield 33, 3) := by decide +kernel
theorem d_Model_judge_98 : decode u_Model_judge.2.2.1 98 = .ok (.aload_n 0, 1) := by decide +kernel
theorem d_Model_judge_99 : decode u_Model_judge.2.2.1 99 = .ok (.getfield 87, 3) := by decide +kernel
theorem d_Model_judge_102 : decode u_Model_judge.2.2.1 102 = .ok (.iload_n 3, 1) := by decide +kernel
theorem d_Model_judge_103 : decode u_Model_judge.2.2.1 103 = .ok (.iconst 1, 1) := by decide +kernel
theorem d_Model_judge_104 : decode u_Model_judge.2.2.1 104 = .ok (.isub, 1) := by decide +kernel
theorem d_Model_judge_105 : decode u_Model_judge.2.2.1 105 = .ok (.iaload, 1) := by decide +kernel
theorem d_Model_judge_106 : decode u_Model_judge.2.2.1 106 = .ok (.iaload, 1) := by decide +kernel
theorem d_Model_judge_107 : decode u_Model_judge.2.2.1 107 = .ok (.if_icmp .ne 37, 3) := by decide +kernel
theorem d_Model_judge_110 : decode u_Model_judge.2.2.1 110 = .ok (.aload_n 0, 1) := by decide +kernel
theorem d_Model_judge_111 : decode u_Model_judge.2.2.1 111 = .ok (.getfield 36, 3) := by decide +kernel
theorem d_Model_judge_114 : decode u_Model_judge.2.2.1 114 = .ok (.aload_n 0, 1) := by decide +kernel
theorem d_Model_judge_115 : decode u_Model_judge.2.2.1 115 = .ok (.getfield 87, 3) := by decide +kernel
theorem d_Model_judge_118 : decode u_Model_judge.2.2.1 118 = .ok (.iload_n 3, 1) := by decide +kernel
theorem d_Model_judge_119 : decode u_Model_judge.2.2.1 119 = .ok (.iaload, 1) := by decide +kernel
theorem d_Model_judge_120 : decode u_Model_judge.2.2.1 120 = .ok (.iaload, 1) := by decide +kernel
theorem d_Model_judge_121 : decode u_Model_judge.2.2.1 121 = .ok (.aload_n 0, 1) := by decide +kernel
theorem d_Model_judge_122 : decode u_Model_judge.2.2.1 122 = .ok (.getfield 39, 3) := by decide +kernel
theorem d_Model_judge_125 : decode u_Model_judge.2.2.1 125 = .ok (.aload_n 0, 1) := by decide +kernel
theorem d_Model_judge_126 : decode u_Model_judge.2.2.1 126 = .ok (.getfield 87, 3) := by decide +kernel
theorem d_Model_judge_129 : decode u_Model_judge.2.2.1 129 = .ok (.iload_n 3, 1) := by decide +kernel
theorem d_Model_judge_130 : decode u_Model_judge.2.2.1 130 = .ok (.iconst 1, 1) := by decide +kernel
theorem d_Model_judge_131 : decode u_Model_judge.2.2.1 131 = .ok (.isub, 1) := by decide +kernel
theorem d_Model_judge_132 : decode u_Model_judge.2.2.1 132 = .ok (.iaload, 1) := by decide +kernel
theorem d_Model_judge_133 : decode u_Model_judge.2.2.1 133 = .ok (.iaload, 1) := by decide +kernel
theorem d_Model_judge_134 : decode u_Model_judge.2.2.1 134 = .ok (.aload_n 0, 1) := by decide +kernel
theorem d_Model_judge_135 : decode u_Model_judge.2.2.1 135 = .ok (.getfield 78, 3) := by decide +kernel
theorem d_Model_judge_138 : decode u_Model_judge.2.2.1 138 = .ok (.iconst 2, 1) := by decide +kernel
theorem d_Model_judge_139 : decode u_Model_judge.2.2.1 139 = .ok (.iaload, 1) := by decide +kernel
theorem d_Model_judge_140 : decode u_Model_judge.2.2.1 140 = .ok (.iadd, 1) := by decide +kernel
theorem d_Model_judge_141 : decode u_Model_judge.2.2.1 141 = .ok (.if_icmp .ge 5, 3) := by decide +kernel
theorem d_Model_judge_144 : decode u_Model_judge.2.2.1 144 = .ok (.iconst 2, 1) := by decide +kernel
theorem d_Model_judge_145 : decode u_Model_judge.2.2.1 145 = .ok (.ireturn, 1) := by decide +kernel
theorem d_Model_judge_146 : decode u_Model_judge.2.2.1 146 = .ok (.iinc 3 1, 3) := by decide +kernel
theorem d_Model_judge_149 : decode u_Model_judge.2.2.1 149 = .ok (.goto (-74), 3) := by decide +kernel
theorem d_Model_judge_152 : decode u_Model_judge.2.2.1 152 = .ok (.aload_n 0, 1) := by decide +kernel
theorem d_Model_judge_153 : decode u_Model_judge.2.2.1 153 = .ok (.invokevirtual 209, 3) := by decide +kernel
theorem d_Model_judge_156 : decode u_Model_judge.2.2.1 156 = .ok (.istore_n 3, 1) := by decide +kernel
theorem d_Model_judge_157 : decode u_Model_judge.2.2.1 157 = .ok (.iload_n 3, 1) := by decide +kernel
theorem d_Model_judge_158 : decode u_Model_judge.2.2.1 158 = .ok (.ifCond .le 5, 3) := by decide +kernel
theorem d_Model_judge_161 : decode u_Model_judge.2.2.1 161 = .ok (.iload_n 3, 1) := by decide +kernel
theorem d_Model_judge_162 : decode u_Model_judge.2.2.1 162 = .ok (.ireturn, 1) := by decide +kernel
theorem d_Model_judge_163 : decode u_Model_judge.2.2.1 163 = .ok (.aload_n 0, 1) := by decide +kernel
theorem d_Model_judge_164 : decode u_Model_judge.2.2.1 164 = .ok (.getfield 200, 3) := by decide +kernel
theorem d_Model_judge_167 : decode u_Model_judge.2.2.1 167 = .ok (.aload_n 0, 1) := by decide +kernel
theorem d_Model_judge_168 : decode u_Model_judge.2.2.1 168 = .ok (.getfield 78, 3) := by decide +kernel
theorem d_Model_judge_171 : decode u_Model_judge.2.2.1 171 = .ok (.bipush 6, 2) := by decide +kernel
theorem d_Model_judge_173 : decode u_Model_judge.2.2.1 173 = .ok (.iaload, 1) := by decide +kernel
theorem d_Model_judge_174 : decode u_Model_judge.2.2.1 174 = .ok (.if_icmp .le 6, 3) := by decide +kernel
theorem d_Model_judge_177 : decode u_Model_judge.2.2.1 177 = .ok (.bipush 7, 2) := by decide +kernel
theorem d_Model_judge_179 : decode u_Model_judge.2.2.1 179 = .ok (.ireturn, 1) := by decide +kernel
theorem d_Model_judge_180 : decode u_Model_judge.2.2.1 180 = .ok (.aload_n 0, 1) := by decide +kernel
theorem d_Model_judge_181 : decode u_Model_judge.2.2.1 181 = .ok (.getfield 33, 3) := by decide +kernel
theorem d_Model_judge_184 : decode u_Model_judge.2.2.1 184 = .ok (.aload_n 0, 1) := by decide +kernel
theorem d_Model_judge_185 : decode u_Model_judge.2.2.1 185 = .ok (.getfield 87, 3) := by decide +kernel
theorem d_Model_judge_188 : decode u_Model_judge.2.2.1 188 = .ok (.aload_n 0, 1) := by decide +kernel
theorem d_Model_judge_189 : decode u_Model_judge.2.2.1 189 = .ok (.getfield 203, 3) := by decide +kernel
theorem d_Model_judge_192 : decode u_Model_judge.2.2.1 192 = .ok (.iconst 1, 1) := by decide +kernel
theorem d_Model_judge_193 : decode u_Model_judge.2.2.1 193 = .ok (.isub, 1) := by decide +kernel
theorem d_Model_judge_194 : decode u_Model_judge.2.2.1 194 = .ok (.iaload, 1) := by decide +kernel
theorem d_Model_judge_195 : decode u_Model_judge.2.2.1 195 = .ok (.iaload, 1) := by decide +kernel
theorem d_Model_judge_196 : decode u_Model_judge.2.2.1 196 = .ok (.aload_n 0, 1) := by decide +kernel
theorem d_Model_judge_197 : decode u_Model_judge.2.2.1 197 = .ok (.getfield 30, 3) := by decide +kernel
theorem d_Model_judge_200 : decode u_Model_judge.2.2.1 200 = .ok (.aload_n 0, 1) := by decide +kernel
theorem d_Model_judge_201 : decode u_Model_judge.2.2.1 201 = .ok (.getfield 87, 3) := by decide +kernel
theorem d_Model_judge_204 : decode u_Model_judge.2.2.1 204 = .ok (.iconst 0, 1) := by decide +kernel
theorem d_Model_judge_205 : decode u_Model_judge.2.2.1 205 = .ok (.iaload, 1) := by decide +kernel
theorem d_Model_judge_206 : decode u_Model_judge.2.2.1 206 = .ok (.iaload, 1) := by decide +kernel
theorem d_Model_judge_207 : decode u_Model_judge.2.2.1 207 = .ok (.if_icmp .eq 6, 3) := by decide +kernel
theorem d_Model_judge_210 : decode u_Model_judge.2.2.1 210 = .ok (.bipush 8, 2) := by decide +kernel
theorem d_Model_judge_212 : decode u_Model_judge.2.2.1 212 = .ok (.ireturn, 1) := by decide +kernel
theorem d_Model_judge_213 : decode u_Model_judge.2.2.1 213 = .ok (.aload_n 0, 1) := by decide +kernel
theorem d_Model_judge_214 : decode u_Model_judge.2.2.1 214 = .ok (.getfield 99, 3) := by decide +kernel
theorem d_Model_judge_217 : decode u_Model_judge.2.2.1 217 = .ok (.aload_n 0, 1) := by decide +kernel
theorem d_Model_judge_218 : decode u_Model_judge.2.2.1 218 = .ok (.getfield 200, 3) := by decide +kernel
theorem d_Model_judge_221 : decode u_Model_judge.2.2.1 221 = .ok (.iconst 1, 1) := by decide +kernel
theorem d_Model_judge_222 : decode u_Model_judge.2.2.1 222 = .ok (.isub, 1) := by decide +kernel
theorem d_Model_judge_223 : decode u_Model_judge.2.2.1 223 = .ok (.iaload, 1) := by decide +kernel
theorem d_Model_judge_224 : decode u_Model_judge.2.2.1 224 = .ok (.aload_n 0, 1) := by decide +kernel
theorem d_Model_judge_225 : decode u_Model_judge.2.2.1 225 = .ok (.getfield 96, 3) := by decide +kernel
theorem d_Model_judge_228 : decode u_Model_judge.2.2.1 228 = .ok (.iconst 0, 1) := by decide +kernel
theorem d_Model_judge_229 : decode u_Model_judge.2.2.1 229 = .ok (.iaload, 1) := by decide +kernel
theorem d_Model_judge_230 : decode u_Model_judge.2.2.1 230 = .ok (.isub, 1) := by decide +kernel
theorem d_Model_judge_231 : decode u_Model_judge.2.2.1 231 = .ok (.aload_n 0, 1) := by decide +kernel
theorem d_Model_judge_232 : decode u_Model_judge.2.2.1 232 = .ok (.getfield 78, 3) := by decide +kernel
theorem d_Model_judge_235 : decode u_Model_judge.2.2.1 235 = .ok (.bipush 7, 2) := by decide +kernel
theorem d_Model_judge_237 : decode u_Model_judge.2.2.1 237 = .ok (.iaload, 1) := by decide +kernel
theorem d_Model_judge_238 : decode u_Model_judge.2.2.1 238 = .ok (.if_icmp .le 6, 3) := by decide +kernel
theorem d_Model_judge_241 : decode u_Model_judge.2.2.1 241 = .ok (.bipush 9, 2) := by decide +kernel
theorem d_Model_judge_243 : decode u_Model_judge.2.2.1 243 = .ok (.ireturn, 1) := by decide +kernel
theorem d_Model_judge_244 : decode u_Model_judge.2.2.1 244 = .ok (.iload_n 1, 1) := by decide +kernel
theorem d_Model_judge_245 : decode u_Model_judge.2.2.1 245 = .ok (.ifCond .ge 7, 3) := by decide +kernel
theorem d_Model_judge_248 : decode u_Model_judge.2.2.1 248 = .ok (.iconst 0, 1) := by decide +kernel
theorem d_Model_judge_249 : decode u_Model_judge.2.2.1 249 = .ok (.goto 8, 3) := by decide +kernel
theorem d_Model_judge_252 : decode u_Model_judge.2.2.1 252 = .ok (.aload_n 0, 1) := by decide +kernel
theorem d_Model_judge_253 : decode u_Model_judge.2.2.1 253 = .ok (.iload_n 1, 1) := by decide +kernel
theorem d_Model_judge_254 : decode u_Model_judge.2.2.1 254 = .ok (.invokevirtual 213, 3) := by decide +kernel
theorem d_Model_judge_257 : decode u_Model_judge.2.2.1 257 = .ok (.ireturn, 1) := by decide +kernel
theorem w_Model_judge : am_code y_Model_judge u_Model_judge ∈ am_ws := am_mem (List.mem_of_getElem? (i := 1251) (by decide +kernel)) rfl
def a_Model_judge_0 (rc : Nat → Nat → Int32 → Int32 → Int32 → Int32 → am_M → Option (Int32 × am_M)) (r0 : Nat) (x1 : Int32) (x2 : Int32) (x3 : Int32) (s0 : Int32) (M : am_M) : Option (Int32 × am_M) := if (4 : Int32) ≤ x3 then (if x2 = 0 then (some ((1 : Int32), M)) else (rc 5 r0 x1 0 (1 : Int32) 0 M)) else (if x2 = 0 then ((q_gtr M r0 10 12).bind (fun t18 => (q_ldz M t18 x3).bind (fun t22 => if t22 = 0 then (rc 3 r0 x1 0 x3 0 M) else (if x1 < 0 then (rc 1 r0 x1 0 x3 0 M) else (if x1 = x3 then (rc 1 r0 x1 0 x3 0 M) else (rc 3 r0 x1 0 x3 0 M)))))) else (rc 2 r0 x1 0 x3 0 M))
def a_Model_judge_1 (rc : Nat → Nat → Int32 → Int32 → Int32 → Int32 → am_M → Option (Int32 × am_M)) (r0 : Nat) (x1 : Int32) (x2 : Int32) (x3 : Int32) (s0 : Int32) (M : am_M) : Option (Int32 × am_M) := (q_gtr M r0 10 13).bind (fun t36 => (q_ldi M t36 x3).bind (fun t40 => (q_gtr M r0 10 7).bind (fun t42 => (q_gtr M r0 10 27).bind (fun t46 => (q_ldi M t46 (0 : Int32)).bind (fun t50 => (q_ldi M t42 t50).bind (fun t51 => if t40 = t51 then (rc 2 r0 x1 0 x3 0 M) else (rc 3 r0 x1 0 x3 0 M)))))))
def a_Model_judge_2 (rc : Nat → Nat → Int32 → Int32 → Int32 → Int32 → am_M → Option (Int32 × am_M)) (r0 : Nat) (x1 : Int32) (x2 : Int32) (x3 : Int32) (s0 : Int32) (M : am_M) : Option (Int32 × am_M) := rc 4 r0 x1 0 x3 (1 : Int32) M
def a_Model_judge_3 (rc : Nat → Nat → Int32 → Int32 → Int32 → Int32 → am_M → Option (Int32 × am_M)) (r0 : Nat) (x1 : Int32) (x2 : Int32) (x3 : Int32) (s0 : Int32) (M : am_M) : Option (Int32 × am_M) := rc 4 r0 x1 0 x3 (0 : Int32) M
def a_Model_judge_4 (rc : Nat → Nat → Int32 → Int32 → Int32 → Int32 → am_M → Option (Int32 × am_M)) (r0 : Nat) (x1 : Int32) (x2 : Int32) (x3 : Int32) (s0 : Int32) (M : am_M) : Option (Int32 × am_M) := rc 0 r0 x1 s0 (x3 + (1 : Int32)) 0 M
def a_Model_judge_5 (rc : Nat → Nat → Int32 → Int32 → Int32 → Int32 → am_M → Option (Int32 × am_M)) (r0 : Nat) (x1 : Int32) (x2 : Int32) (x3 : Int32) (s0 : Int32) (M : am_M) : Option (Int32 × am_M) := (q_gti M r0 10 28).bind (fun t77 => if t77 ≤ x3 then ((q_ob M r0 10).bind (fun o153 => (f_Model_dutyRule M r0).bind (fun p153 => if p153.1 ≤ 0 then ((q_gti p153.2 r0 10 29).bind (fun t164 => (q_gtr p153.2 r0 10 23).bind (fun t168 => (q_ldi p153.2 t168 (6 : Int32)).bind (fun t173 => if t164 ≤ t173 then ((q_gtr p153.2 r0 10 8).bind (fun t181 => (q_gtr p153.2 r0 10 27).bind (fun t185 => (q_gti p153.2 r0 10 28).bind (fun t189 => (q_ldi p153.2 t185 (t189 - (1 : Int32))).bind (fun t194 => (q_ldi p153.2 t181 t194).bind (fun t195 => (q_gtr p153.2 r0 10 7).bind (fun t197 => (q_gtr p153.2 r0 10 27).bind (fun t201 => (q_ldi p153.2 t201 (0 : Int32)).bind (fun t205 => (q_ldi p153.2 t197 t205).bind (fun t206 => if t195 = t206 then ((q_gtr p153.2 r0 10 33).bind (fun t214 => (q_gti p153.2 r0 10 29).bind (fun t218 => (q_ldi p153.2 t214 (t218 - (1 : Int32))).bind (fun t223 => (q_gtr p153.2 r0 10 32).bind (fun t225 => (q_ldi p153.2 t225 (0 : Int32)).bind (fun t229 => (q_gtr p153.2 r0 10 23).bind (fun t232 => (q_ldi p153.2 t232 (7 : Int32)).bind (fun t237 => if (t223 - t229) ≤ t237 then (if 0 ≤ x1 then ((q_ob p153.2 r0 10).bind (fun o254 => (f_Model_crewRule p153.2 r0 x1).bind (fun t254 => some (t254, p153.2)))) else (some ((0 : Int32), p153.2))) else (some ((9 : Int32), p153.2)))))))))) else (some ((8 : Int32), p153.2)))))))))))) else (some ((7 : Int32), p153.2)))))) else (some (p153.1, p153.2))))) else ((q_gtr M r0 10 7).bind (fun t84 => (q_gtr M r0 10 27).bind (fun t88 => (q_ldi M t88 x3).bind (fun t92 => (q_ldi M t84 t92).bind (fun t93 => (q_gtr M r0 10 8).bind (fun t95 => (q_gtr M r0 10 27).bind (fun t99 => (q_ldi M t99 (x3 - (1 : Int32))).bind (fun t105 => (q_ldi M t95 t105).bind (fun t106 => if t93 = t106 then ((q_gtr M r0 10 9).bind (fun t111 => (q_gtr M r0 10 27).bind (fun t115 => (q_ldi M t115 x3).bind (fun t119 => (q_ldi M t111 t119).bind (fun t120 => (q_gtr M r0 10 10).bind (fun t122 => (q_gtr M r0 10 27).bind (fun t126 => (q_ldi M t126 (x3 - (1 : Int32))).bind (fun t132 => (q_ldi M t122 t132).bind (fun t133 => (q_gtr M r0 10 23).bind (fun t135 => (q_ldi M t135 (2 : Int32)).bind (fun t139 => if (t133 + t139) ≤ t120 then (rc 5 r0 x1 0 (x3 + (1 : Int32)) 0 M) else (some ((2 : Int32), M))))))))))))) else (some ((2 : Int32), M))))))))))))
def g_Model_judge : Nat → Nat → Nat → Int32 → Int32 → Int32 → Int32 → am_M → Option (Int32 × am_M)
  | 0, _, _, _, _, _, _, _ => none
  | F + 1, 0, r0, x1, x2, x3, s0, M => a_Model_judge_0 (g_Model_judge F) r0 x1 x2 x3 s0 M
  | F + 1, 1, r0, x1, x2, x3, s0, M => a_Model_judge_1 (g_Model_judge F) r0 x1 x2 x3 s0 M
  | F + 1, 2, r0, x1, x2, x3, s0, M => a_Model_judge_2 (g_Model_judge F) r0 x1 x2 x3 s0 M
  | F + 1, 3, r0, x1, x2, x3, s0, M => a_Model_judge_3 (g_Model_judge F) r0 x1 x2 x3 s0 M
  | F + 1, 4, r0, x1, x2, x3, s0, M => a_Model_judge_4 (g_Model_judge F) r0 x1 x2 x3 s0 M
  | F + 1, 5, r0, x1, x2, x3, s0, M => a_Model_judge_5 (g_Model_judge F) r0 x1 x2 x3 s0 M
  | _ + 1, _ + 6, _, _, _, _, _, _ => none
def e_Model_judge (rc : Nat → Nat → Int32 → Int32 → Int32 → Int32 → am_M → Option (Int32 × am_M)) (M : am_M) (a0 : Nat) (a1 : Int32) : Option (Int32 × am_M) := (q_ob M a0 10).bind (fun o1 => (f_Model_parts M a0).bind (fun p1 => rc 0 a0 a1 (0 : Int32) (0 : Int32) 0 p1.2))
def f_Model_judge (M : am_M) (a0 : Nat) (a1 : Int32) : Option (Int32 × am_M) := e_Model_judge (g_Model_judge 1000000000) M a0 a1
theorem fl_Model_48 : am_fl "CrewOfficeModel" 48 10 13 := ⟨by decide, by decide, List.mem_of_getElem? (i := 1019) (by decide +kernel)⟩
theorem kV_Model_209 : am_kV "CrewOfficeModel" 209 10 y_Model_dutyRule u_Model_dutyRule 0 := ⟨List.mem_of_getElem? (i := 1256) (by decide +kernel), ⟨List.mem_of_getElem? (i := 1258) (by decide +kernel), List.mem_of_getElem? (i := 35) (by decide +kernel)⟩, List.mem_of_getElem? (i := 65) (by decide +kernel), w_Model_dutyRule, ⟨⟨by decide +kernel, by decide +kernel⟩, by decide +kernel⟩⟩
theorem kV_Model_213 : am_kV "CrewOfficeModel" 213 10 y_Model_crewRule u_Model_crewRule 1 := ⟨List.mem_of_getElem? (i := 1277) (by decide +kernel), ⟨List.mem_of_getElem? (i := 1279) (by decide +kernel), List.mem_of_getElem? (i := 40) (by decide +kernel)⟩, List.mem_of_getElem? (i := 65) (by decide +kernel), w_Model_crewRule, ⟨⟨by decide +kernel, by decide +kernel⟩, by decide +kernel⟩⟩
set_option maxHeartbeats 4000000 in
theorem s_Model_judge_0 {rc : Nat → Nat → Int32 → Int32 → Int32 → Int32 → am_M → Option (Int32 × am_M)} {res : Int32} {M' : am_M} (ih_0 : ∀ (r0 : Nat) (x1 : Int32) (x2 : Int32) (x3 : Int32) (s0 : Int32) (M : am_M), rc 0 r0 x1 x2 x3 s0 M = some (res, M') → AW u_Model_judge R_Model_judge 0 0 8 [(0, .ref r0), (1, .int x1), (2, .int x2), (3, .int x3)] [] M (fun r M2 => r = .inl (some (.int res)) ∧ M2 = M')) (ih_1 : ∀ (r0 : Nat) (x1 : Int32) (x2 : Int32) (x3 : Int32) (s0 : Int32) (M : am_M), rc 1 r0 x1 x2 x3 s0 M = some (res, M') → AW u_Model_judge R_Model_judge 0 0 35 [(0, .ref r0), (1, .int x1), (3, .int x3)] [] M (fun r M2 => r = .inl (some (.int res)) ∧ M2 = M')) (ih_2 : ∀ (r0 : Nat) (x1 : Int32) (x2 : Int32) (x3 : Int32) (s0 : Int32) (M : am_M), rc 2 r0 x1 x2 x3 s0 M = some (res, M') → AW u_Model_judge R_Model_judge 0 0 55 [(0, .ref r0), (1, .int x1), (3, .int x3)] [] M (fun r M2 => r = .inl (some (.int res)) ∧ M2 = M')) (ih_3 : ∀ (r0 : Nat) (x1 : Int32) (x2 : Int32) (x3 : Int32) (s0 : Int32) (M : am_M), rc 3 r0 x1 x2 x3 s0 M = some (res, M') → AW u_Model_judge R_Model_judge 0 0 59 [(0, .ref r0), (1, .int x1), (3, .int x3)] [] M (fun r M2 => r = .inl (some (.int res)) ∧ M2 = M')) (ih_4 : ∀ (r0 : Nat) (x1 : Int32) (x2 : Int32) (x3 : Int32) (s0 : Int32) (M : am_M), rc 4 r0 x1 x2 x3 s0 M = some (res, M') → AW u_Model_judge R_Model_judge 0 0 60 [(0, .ref r0), (1, .int x1), (3, .int x3)] [.int s0] M (fun r M2 => r = .inl (some (.int res)) ∧ M2 = M')) (ih_5 : ∀ (r0 : Nat) (x1 : Int32) (x2 : Int32) (x3 : Int32) (s0 : Int32) (M : am_M), rc 5 r0 x1 x2 x3 s0 M = some (res, M') → AW u_Model_judge R_Model_judge 0 0 75 [(0, .ref r0), (1, .int x1), (3, .int x3)] [] M (fun r M2 => r = .inl (some (.int res)) ∧ M2 = M')) : ∀ (r0 : Nat) (x1 : Int32) (x2 : Int32) (x3 : Int32) (s0 : Int32) (M : am_M), a_Model_judge_0 rc r0 x1 x2 x3 s0 M = some (res, M') → AW u_Model_judge R_Model_judge 0 0 8 [(0, .ref r0), (1, .int x1), (2, .int x2), (3, .int x3)] [] M (fun r M2 => r = .inl (some (.int res)) ∧ M2 = M') := by
  intro r0 x1 x2 x3 s0 M h
  unfold a_Model_judge_0 at h
  refine aw_iload_n d_Model_judge_8 rfl rfl ?_
  refine aw_iconst (v := 4) d_Model_judge_9 (by decide) ?_
  refine aw_icmp_ge (tgt := 67) d_Model_judge_10 (by decide) (fun hc => ?_) (fun hc => ?_)
  · rw [if_pos hc] at h
    refine aw_iload_n d_Model_judge_67 rfl rfl ?_
    refine aw_if_ne (tgt := 73) d_Model_judge_68 (by decide) (fun hc => ?_) (fun hc => ?_)
    · rw [if_neg hc] at h
      refine aw_iconst (v := 1) d_Model_judge_73 (by decide) ?_
      refine aw_istore_n (ls' := [(3, .int _), (0, .ref _), (1, .int _), (2, .int _)]) d_Model_judge_74 rfl (Nat.le_of_ble_eq_true rfl) rfl ?_
      exact aw_pick [1, 2, 0] rfl (ih_5 _ _ _ _ _ _ h)
    · rw [if_pos hc] at h
      refine aw_iconst (v := 1) d_Model_judge_71 (by decide) ?_
      cases h
      exact aw_ireturn d_Model_judge_72 rfl (Nat.le_of_ble_eq_true rfl) (Nat.le_of_ble_eq_true rfl) ⟨rfl, rfl⟩
  · rw [if_neg hc] at h
    refine aw_iload_n d_Model_judge_13 rfl rfl ?_
    refine aw_if_ne (tgt := 55) d_Model_judge_14 (by decide) (fun hc => ?_) (fun hc => ?_)
    · rw [if_neg hc] at h
      exact aw_pick [0, 1, 3] rfl (ih_2 _ _ _ _ _ _ h)
    · rw [if_pos hc] at h
      refine aw_aload_n d_Model_judge_17 rfl rfl ?_
      obtain ⟨t18, e_t18, h⟩ := q_bind h
      refine aw_gtr d_Model_judge_18 fl_Model_45 (Or.inr ⟨_, rfl⟩) e_t18 ?_
      refine aw_iload_n d_Model_judge_21 rfl rfl ?_
      obtain ⟨t22, e_t22, h⟩ := q_bind h
      refine aw_ldz d_Model_judge_22 e_t22 ?_
      refine aw_if_eq (tgt := 59) d_Model_judge_23 (by decide) (fun hc => ?_) (fun hc => ?_)
      · rw [if_pos hc] at h
        exact aw_pick [0, 1, 3] rfl (ih_3 _ _ _ _ _ _ h)
      · rw [if_neg hc] at h
        refine aw_iload_n d_Model_judge_26 rfl rfl ?_
        refine aw_if_lt (tgt := 35) d_Model_judge_27 (by decide) (fun hc => ?_) (fun hc => ?_)
        · rw [if_pos hc] at h
          exact aw_pick [0, 1, 3] rfl (ih_1 _ _ _ _ _ _ h)
        · rw [if_neg hc] at h
          refine aw_iload_n d_Model_judge_30 rfl rfl ?_
          refine aw_iload_n d_Model_judge_31 rfl rfl ?_
          refine aw_icmp_ne (tgt := 59) d_Model_judge_32 (by decide) (fun hc => ?_) (fun hc => ?_)
          · rw [if_neg hc] at h
            exact aw_pick [0, 1, 3] rfl (ih_3 _ _ _ _ _ _ h)
          · rw [if_pos hc] at h
            exact aw_pick [0, 1, 3] rfl (ih_1 _ _ _ _ _ _ h)
set_option maxHeartbeats 4000000 in
theorem s_Model_judge_1 {rc : Nat → Nat → Int32 → Int32 → Int32 → Int32 → am_M → Option (Int32 × am_M)} {res : Int32} {M' : am_M} (ih_0 : ∀ (r0 : Nat) (x1 : Int32) (x2 : Int32) (x3 : Int32) (s0 : Int32) (M : am_M), rc 0 r0 x1 x2 x3 s0 M = some (res, M') → AW u_Model_judge R_Model_judge 0 0 8 [(0, .ref r0), (1, .int x1), (2, .int x2), (3, .int x3)] [] M (fun r M2 => r = .inl (some (.int res)) ∧ M2 = M')) (ih_1 : ∀ (r0 : Nat) (x1 : Int32) (x2 : Int32) (x3 : Int32) (s0 : Int32) (M : am_M), rc 1 r0 x1 x2 x3 s0 M = some (res, M') → AW u_Model_judge R_Model_judge 0 0 35 [(0, .ref r0), (1, .int x1), (3, .int x3)] [] M (fun r M2 => r = .inl (some (.int res)) ∧ M2 = M')) (ih_2 : ∀ (r0 : Nat) (x1 : Int32) (x2 : Int32) (x3 : Int32) (s0 : Int32) (M : am_M), rc 2 r0 x1 x2 x3 s0 M = some (res, M') → AW u_Model_judge R_Model_judge 0 0 55 [(0, .ref r0), (1, .int x1), (3, .int x3)] [] M (fun r M2 => r = .inl (some (.int res)) ∧ M2 = M')) (ih_3 : ∀ (r0 : Nat) (x1 : Int32) (x2 : Int32) (x3 : Int32) (s0 : Int32) (M : am_M), rc 3 r0 x1 x2 x3 s0 M = some (res, M') → AW u_Model_judge R_Model_judge 0 0 59 [(0, .ref r0), (1, .int x1), (3, .int x3)] [] M (fun r M2 => r = .inl (some (.int res)) ∧ M2 = M')) (ih_4 : ∀ (r0 : Nat) (x1 : Int32) (x2 : Int32) (x3 : Int32) (s0 : Int32) (M : am_M), rc 4 r0 x1 x2 x3 s0 M = some (res, M') → AW u_Model_judge R_Model_judge 0 0 60 [(0, .ref r0), (1, .int x1), (3, .int x3)] [.int s0] M (fun r M2 => r = .inl (some (.int res)) ∧ M2 = M')) (ih_5 : ∀ (r0 : Nat) (x1 : Int32) (x2 : Int32) (x3 : Int32) (s0 : Int32) (M : am_M), rc 5 r0 x1 x2 x3 s0 M = some (res, M') → AW u_Model_judge R_Model_judge 0 0 75 [(0, .ref r0), (1, .int x1), (3, .int x3)] [] M (fun r M2 => r = .inl (some (.int res)) ∧ M2 = M')) : ∀ (r0 : Nat) (x1 : Int32) (x2 : Int32) (x3 : Int32) (s0 : Int32) (M : am_M), a_Model_judge_1 rc r0 x1 x2 x3 s0 M = some (res, M') → AW u_Model_judge R_Model_judge 0 0 35 [(0, .ref r0), (1, .int x1), (3, .int x3)] [] M (fun r M2 => r = .inl (some (.int res)) ∧ M2 = M') := by
  intro r0 x1 x2 x3 s0 M h
  unfold a_Model_judge_1 at h
  refine aw_aload_n d_Model_judge_35 rfl rfl ?_
  obtain ⟨t36, e_t36, h⟩ := q_bind h
  refine aw_gtr d_Model_judge_36 fl_Model_48 (Or.inr ⟨_, rfl⟩) e_t36 ?_
  refine aw_iload_n d_Model_judge_39 rfl rfl ?_
  obtain ⟨t40, e_t40, h⟩ := q_bind h
  refine aw_ldi d_Model_judge_40 e_t40 ?_
  refine aw_aload_n d_Model_judge_41 rfl rfl ?_
  obtain ⟨t42, e_t42, h⟩ := q_bind h
  refine aw_gtr d_Model_judge_42 fl_Model_30 (Or.inr ⟨_, rfl⟩) e_t42 ?_
  refine aw_aload_n d_Model_judge_45 rfl rfl ?_
  obtain ⟨t46, e_t46, h⟩ := q_bind h
  refine aw_gtr d_Model_judge_46 fl_Model_87 (Or.inr ⟨_, rfl⟩) e_t46 ?_
  refine aw_iconst (v := 0) d_Model_judge_49 (by decide) ?_
  obtain ⟨t50, e_t50, h⟩ := q_bind h
  refine aw_ldi d_Model_judge_50 e_t50 ?_
  obtain ⟨t51, e_t51, h⟩ := q_bind h
  refine aw_ldi d_Model_judge_51 e_t51 ?_
  refine aw_icmp_ne (tgt := 59) d_Model_judge_52 (by decide) (fun hc => ?_) (fun hc => ?_)
  · rw [if_neg hc] at h
    exact aw_pick [0, 1, 2] rfl (ih_3 _ _ _ _ _ _ h)
  · rw [if_pos hc] at h
    exact aw_pick [0, 1, 2] rfl (ih_2 _ _ _ _ _ _ h)
set_option maxHeartbeats 4000000 in
theorem s_Model_judge_2 {rc : Nat → Nat → Int32 → Int32 → Int32 → Int32 → am_M → Option (Int32 × am_M)} {res : Int32} {M' : am_M} (ih_0 : ∀ (r0 : Nat) (x1 : Int32) (x2 : Int32) (x3 : Int32) (s0 : Int32) (M : am_M), rc 0 r0 x1 x2 x3 s0 M = some (res, M') → AW u_Model_judge R_Model_judge 0 0 8 [(0, .ref r0), (1, .int x1), (2, .int x2), (3, .int x3)] [] M (fun r M2 => r = .inl (some (.int res)) ∧ M2 = M')) (ih_1 : ∀ (r0 : Nat) (x1 : Int32) (x2 : Int32) (x3 : Int32) (s0 : Int32) (M : am_M), rc 1 r0 x1 x2 x3 s0 M = some (res, M') → AW u_Model_judge R_Model_judge 0 0 35 [(0, .ref r0), (1, .int x1), (3, .int x3)] [] M (fun r M2 => r = .inl (some (.int res)) ∧ M2 = M')) (ih_2 : ∀ (r0 : Nat) (x1 : Int32) (x2 : Int32) (x3 : Int32) (s0 : Int32) (M : am_M), rc 2 r0 x1 x2 x3 s0 M = some (res, M') → AW u_Model_judge R_Model_judge 0 0 55 [(0, .ref r0), (1, .int x1), (3, .int x3)] [] M (fun r M2 => r = .inl (some (.int res)) ∧ M2 = M')) (ih_3 : ∀ (r0 : Nat) (x1 : Int32) (x2 : Int32) (x3 : Int32) (s0 : Int32) (M : am_M), rc 3 r0 x1 x2 x3 s0 M = some (res, M') → AW u_Model_judge R_Model_judge 0 0 59 [(0, .ref r0), (1, .int x1), (3, .int x3)] [] M (fun r M2 => r = .inl (some (.int res)) ∧ M2 = M')) (ih_4 : ∀ (r0 : Nat) (x1 : Int32) (x2 : Int32) (x3 : Int32) (s0 : Int32) (M : am_M), rc 4 r0 x1 x2 x3 s0 M = some (res, M') → AW u_Model_judge R_Model_judge 0 0 60 [(0, .ref r0), (1, .int x1), (3, .int x3)] [.int s0] M (fun r M2 => r = .inl (some (.int res)) ∧ M2 = M')) (ih_5 : ∀ (r0 : Nat) (x1 : Int32) (x2 : Int32) (x3 : Int32) (s0 : Int32) (M : am_M), rc 5 r0 x1 x2 x3 s0 M = some (res, M') → AW u_Model_judge R_Model_judge 0 0 75 [(0, .ref r0), (1, .int x1), (3, .int x3)] [] M (fun r M2 => r = .inl (some (.int res)) ∧ M2 = M')) : ∀ (r0 : Nat) (x1 : Int32) (x2 : Int32) (x3 : Int32) (s0 : Int32) (M : am_M), a_Model_judge_2 rc r0 x1 x2 x3 s0 M = some (res, M') → AW u_Model_judge R_Model_judge 0 0 55 [(0, .ref r0), (1, .int x1), (3, .int x3)] [] M (fun r M2 => r = .inl (some (.int res)) ∧ M2 = M') := by
  intro r0 x1 x2 x3 s0 M h
  unfold a_Model_judge_2 at h
  refine aw_iconst (v := 1) d_Model_judge_55 (by decide) ?_
  refine aw_goto (tgt := 60) d_Model_judge_56 (by decide) ?_
  exact aw_pick [0, 1, 2] rfl (ih_4 _ _ _ _ _ _ h)
set_option maxHeartbeats 4000000 in
theorem s_Model_judge_3 {rc : Nat → Nat → Int32 → Int32 → Int32 → Int32 → am_M → Option (Int32 × am_M)} {res : Int32} {M' : am_M} (ih_0 : ∀ (r0 : Nat) (x1 : Int32) (x2 : Int32) (x3 : Int32) (s0 : Int32) (M : am_M), rc 0 r0 x1 x2 x3 s0 M = some (res, M') → AW u_Model_judge R_Model_judge 0 0 8 [(0, .ref r0), (1, .int x1), (2, .int x2), (3, .int x3)] [] M (fun r M2 => r = .inl (some (.int res)) ∧ M2 = M')) (ih_1 : ∀ (r0 : Nat) (x1 : Int32) (x2 : Int32) (x3 : Int32) (s0 : Int32) (M : am_M), rc 1 r0 x1 x2 x3 s0 M = some (res, M') → AW u_Model_judge R_Model_judge 0 0 35 [(0, .ref r0), (1, .int x1), (3, .int x3)] [] M (fun r M2 => r = .inl (some (.int res)) ∧ M2 = M')) (ih_2 : ∀ (r0 : Nat) (x1 : Int32) (x2 : Int32) (x3 : Int32) (s0 : Int32) (M : am_M), rc 2 r0 x1 x2 x3 s0 M = some (res, M') → AW u_Model_judge R_Model_judge 0 0 55 [(0, .ref r0), (1, .int x1), (3, .int x3)] [] M (fun r M2 => r = .inl (some (.int res)) ∧ M2 = M')) (ih_3 : ∀ (r0 : Nat) (x1 : Int32) (x2 : Int32) (x3 : Int32) (s0 : Int32) (M : am_M), rc 3 r0 x1 x2 x3 s0 M = some (res, M') → AW u_Model_judge R_Model_judge 0 0 59 [(0, .ref r0), (1, .int x1), (3, .int x3)] [] M (fun r M2 => r = .inl (some (.int res)) ∧ M2 = M')) (ih_4 : ∀ (r0 : Nat) (x1 : Int32) (x2 : Int32) (x3 : Int32) (s0 : Int32) (M : am_M), rc 4 r0 x1 x2 x3 s0 M = some (res, M') → AW u_Model_judge R_Model_judge 0 0 60 [(0, .ref r0), (1, .int x1), (3, .int x3)] [.int s0] M (fun r M2 => r = .inl (some (.int res)) ∧ M2 = M')) (ih_5 : ∀ (r0 : Nat) (x1 : Int32) (x2 : Int32) (x3 : Int32) (s0 : Int32) (M : am_M), rc 5 r0 x1 x2 x3 s0 M = some (res, M') → AW u_Model_judge R_Model_judge 0 0 75 [(0, .ref r0), (1, .int x1), (3, .int x3)] [] M (fun r M2 => r = .inl (some (.int res)) ∧ M2 = M')) : ∀ (r0 : Nat) (x1 : Int32) (x2 : Int32) (x3 : Int32) (s0 : Int32) (M : am_M), a_Model_judge_3 rc r0 x1 x2 x3 s0 M = some (res, M') → AW u_Model_judge R_Model_judge 0 0 59 [(0, .ref r0), (1, .int x1), (3, .int x3)] [] M (fun r M2 => r = .inl (some (.int res)) ∧ M2 = M') := by
  intro r0 x1 x2 x3 s0 M h
  unfold a_Model_judge_3 at h
  refine aw_iconst (v := 0) d_Model_judge_59 (by decide) ?_
  exact aw_pick [0, 1, 2] rfl (ih_4 _ _ _ _ _ _ h)
set_option maxHeartbeats 4000000 in
theorem s_Model_judge_4 {rc : Nat → Nat → Int32 → Int32 → Int32 → Int32 → am_M → Option (Int32 × am_M)} {res : Int32} {M' : am_M} (ih_0 : ∀ (r0 : Nat) (x1 : Int32) (x2 : Int32) (x3 : Int32) (s0 : Int32) (M : am_M), rc 0 r0 x1 x2 x3 s0 M = some (res, M') → AW u_Model_judge R_Model_judge 0 0 8 [(0, .ref r0), (1, .int x1), (2, .int x2), (3, .int x3)] [] M (fun r M2 => r = .inl (some (.int res)) ∧ M2 = M')) (ih_1 : ∀ (r0 : Nat) (x1 : Int32) (x2 : Int32) (x3 : Int32) (s0 : Int32) (M : am_M), rc 1 r0 x1 x2 x3 s0 M = some (res, M') → AW u_Model_judge R_Model_judge 0 0 35 [(0, .ref r0), (1, .int x1), (3, .int x3)] [] M (fun r M2 => r = .inl (some (.int res)) ∧ M2 = M')) (ih_2 : ∀ (r0 : Nat) (x1 : Int32) (x2 : Int32) (x3 : Int32) (s0 : Int32) (M : am_M), rc 2 r0 x1 x2 x3 s0 M = some (res, M') → AW u_Model_judge R_Model_judge 0 0 55 [(0, .ref r0), (1, .int x1), (3, .int x3)] [] M (fun r M2 => r = .inl (some (.int res)) ∧ M2 = M')) (ih_3 : ∀ (r0 : Nat) (x1 : Int32) (x2 : Int32) (x3 : Int32) (s0 : Int32) (M : am_M), rc 3 r0 x1 x2 x3 s0 M = some (res, M') → AW u_Model_judge R_Model_judge 0 0 59 [(0, .ref r0), (1, .int x1), (3, .int x3)] [] M (fun r M2 => r = .inl (some (.int res)) ∧ M2 = M')) (ih_4 : ∀ (r0 : Nat) (x1 : Int32) (x2 : Int32) (x3 : Int32) (s0 : Int32) (M : am_M), rc 4 r0 x1 x2 x3 s0 M = some (res, M') → AW u_Model_judge R_Model_judge 0 0 60 [(0, .ref r0), (1, .int x1), (3, .int x3)] [.int s0] M (fun r M2 => r = .inl (some (.int res)) ∧ M2 = M')) (ih_5 : ∀ (r0 : Nat) (x1 : Int32) (x2 : Int32) (x3 : Int32) (s0 : Int32) (M : am_M), rc 5 r0 x1 x2 x3 s0 M = some (res, M') → AW u_Model_judge R_Model_judge 0 0 75 [(0, .ref r0), (1, .int x1), (3, .int x3)] [] M (fun r M2 => r = .inl (some (.int res)) ∧ M2 = M')) : ∀ (r0 : Nat) (x1 : Int32) (x2 : Int32) (x3 : Int32) (s0 : Int32) (M : am_M), a_Model_judge_4 rc r0 x1 x2 x3 s0 M = some (res, M') → AW u_Model_judge R_Model_judge 0 0 60 [(0, .ref r0), (1, .int x1), (3, .int x3)] [.int s0] M (fun r M2 => r = .inl (some (.int res)) ∧ M2 = M') := by
  intro r0 x1 x2 x3 s0 M h
  unfold a_Model_judge_4 at h
  refine aw_istore_n (ls' := [(2, .int _), (0, .ref _), (1, .int _), (3, .int _)]) d_Model_judge_60 rfl (Nat.le_of_ble_eq_true rfl) rfl ?_
  refine aw_iinc (v := (x3 + (1 : Int32))) (ls' := [(3, .int _), (2, .int _), (0, .ref _), (1, .int _)]) d_Model_judge_61 rfl rfl (Nat.le_of_ble_eq_true rfl) rfl ?_
  refine aw_goto (tgt := 8) d_Model_judge_64 (by decide) ?_
  exact aw_pick [2, 3, 1, 0] rfl (ih_0 _ _ _ _ _ _ h)
set_option maxHeartbeats 4000000 in
theorem s_Model_judge_5 {rc : Nat → Nat → Int32 → Int32 → Int32 → Int32 → am_M → Option (Int32 × am_M)} {res : Int32} {M' : am_M} (ih_0 : ∀ (r0 : Nat) (x1 : Int32) (x2 : Int32) (x3 : Int32) (s0 : Int32) (M : am_M), rc 0 r0 x1 x2 x3 s0 M = some (res, M') → AW u_Model_judge R_Model_judge 0 0 8 [(0, .ref r0), (1, .int x1), (2, .int x2), (3, .int x3)] [] M (fun r M2 => r = .inl (some (.int res)) ∧ M2 = M')) (ih_1 : ∀ (r0 : Nat) (x1 : Int32) (x2 : Int32) (x3 : Int32) (s0 : Int32) (M : am_M), rc 1 r0 x1 x2 x3 s0 M = some (res, M') → AW u_Model_judge R_Model_judge 0 0 35 [(0, .ref r0), (1, .int x1), (3, .int x3)] [] M (fun r M2 => r = .inl (some (.int res)) ∧ M2 = M')) (ih_2 : ∀ (r0 : Nat) (x1 : Int32) (x2 : Int32) (x3 : Int32) (s0 : Int32) (M : am_M), rc 2 r0 x1 x2 x3 s0 M = some (res, M') → AW u_Model_judge R_Model_judge 0 0 55 [(0, .ref r0), (1, .int x1), (3, .int x3)] [] M (fun r M2 => r = .inl (some (.int res)) ∧ M2 = M')) (ih_3 : ∀ (r0 : Nat) (x1 : Int32) (x2 : Int32) (x3 : Int32) (s0 : Int32) (M : am_M), rc 3 r0 x1 x2 x3 s0 M = some (res, M') → AW u_Model_judge R_Model_judge 0 0 59 [(0, .ref r0), (1, .int x1), (3, .int x3)] [] M (fun r M2 => r = .inl (some (.int res)) ∧ M2 = M')) (ih_4 : ∀ (r0 : Nat) (x1 : Int32) (x2 : Int32) (x3 : Int32) (s0 : Int32) (M : am_M), rc 4 r0 x1 x2 x3 s0 M = some (res, M') → AW u_Model_judge R_Model_judge 0 0 60 [(0, .ref r0), (1, .int x1), (3, .int x3)] [.int s0] M (fun r M2 => r = .inl (some (.int res)) ∧ M2 = M')) (ih_5 : ∀ (r0 : Nat) (x1 : Int32) (x2 : Int32) (x3 : Int32) (s0 : Int32) (M : am_M), rc 5 r0 x1 x2 x3 s0 M = some (res, M') → AW u_Model_judge R_Model_judge 0 0 75 [(0, .ref r0), (1, .int x1), (3, .int x3)] [] M (fun r M2 => r = .inl (some (.int res)) ∧ M2 = M')) : ∀ (r0 : Nat) (x1 : Int32) (x2 : Int32) (x3 : Int32) (s0 : Int32) (M : am_M), a_Model_judge_5 rc r0 x1 x2 x3 s0 M = some (res, M') → AW u_Model_judge R_Model_judge 0 0 75 [(0, .ref r0), (1, .int x1), (3, .int x3)] [] M (fun r M2 => r = .inl (some (.int res)) ∧ M2 = M') := by
  intro r0 x1 x2 x3 s0 M h
  unfold a_Model_judge_5 at h
  refine aw_iload_n d_Model_judge_75 rfl rfl ?_
  refine aw_aload_n d_Model_judge_76 rfl rfl ?_
  obtain ⟨t77, e_t77, h⟩ := q_bind h
  refine aw_gti d_Model_judge_77 fl_Model_203 (Or.inl rfl) e_t77 ?_
  refine aw_icmp_ge (tgt := 152) d_Model_judge_80 (by decide) (fun hc => ?_) (fun hc => ?_)
  · rw [if_pos hc] at h
    refine aw_aload_n d_Model_judge_152 rfl rfl ?_
    obtain ⟨o153, e_o153, h⟩ := q_bind h
    obtain ⟨⟨t153, M153⟩, e_t153, h⟩ := q_bind h
    dsimp only at h
    refine aw_cV (v := (some (.int t153))) (As := []) (rest := []) (st' := [.int t153]) d_Model_judge_153 kV_Model_209 (q_ob_spec e_o153).1 (q_ob_spec e_o153).2 ⟨Nat.le_of_ble_eq_true rfl, Nat.le_of_ble_eq_true rfl, Nat.le_of_ble_eq_true rfl, Nat.le_of_ble_eq_true rfl⟩ rfl rfl (Nat.le_of_ble_eq_true rfl) rfl (mt_Model_dutyRule e_t153) ?_
    refine aw_istore_n (ls' := [(3, .int _), (0, .ref _), (1, .int _)]) d_Model_judge_156 rfl (Nat.le_of_ble_eq_true rfl) rfl ?_
    refine aw_iload_n d_Model_judge_157 rfl rfl ?_
    refine aw_if_le (tgt := 163) d_Model_judge_158 (by decide) (fun hc => ?_) (fun hc => ?_)
    · rw [if_pos hc] at h
      refine aw_aload_n d_Model_judge_163 rfl rfl ?_
      obtain ⟨t164, e_t164, h⟩ := q_bind h
      refine aw_gti d_Model_judge_164 fl_Model_200 (Or.inl rfl) e_t164 ?_
      refine aw_aload_n d_Model_judge_167 rfl rfl ?_
      obtain ⟨t168, e_t168, h⟩ := q_bind h
      refine aw_gtr d_Model_judge_168 fl_Model_78 (Or.inr ⟨_, rfl⟩) e_t168 ?_
      refine aw_bipush (v := 6) d_Model_judge_171 (by decide) ?_
      obtain ⟨t173, e_t173, h⟩ := q_bind h
      refine aw_ldi d_Model_judge_173 e_t173 ?_
      refine aw_icmp_le (tgt := 180) d_Model_judge_174 (by decide) (fun hc => ?_) (fun hc => ?_)
      · rw [if_pos hc] at h
        refine aw_aload_n d_Model_judge_180 rfl rfl ?_
        obtain ⟨t181, e_t181, h⟩ := q_bind h
        refine aw_gtr d_Model_judge_181 fl_Model_33 (Or.inr ⟨_, rfl⟩) e_t181 ?_
        refine aw_aload_n d_Model_judge_184 rfl rfl ?_
        obtain ⟨t185, e_t185, h⟩ := q_bind h
        refine aw_gtr d_Model_judge_185 fl_Model_87 (Or.inr ⟨_, rfl⟩) e_t185 ?_
        refine aw_aload_n d_Model_judge_188 rfl rfl ?_
        obtain ⟨t189, e_t189, h⟩ := q_bind h
        refine aw_gti d_Model_judge_189 fl_Model_203 (Or.inl rfl) e_t189 ?_
        refine aw_iconst (v := 1) d_Model_judge_192 (by decide) ?_
        refine aw_isub d_Model_judge_193 ?_
        obtain ⟨t194, e_t194, h⟩ := q_bind h
        refine aw_ldi d_Model_judge_194 e_t194 ?_
        obtain ⟨t195, e_t195, h⟩ := q_bind h
        refine aw_ldi d_Model_judge_195 e_t195 ?_
        refine aw_aload_n d_Model_judge_196 rfl rfl ?_
        obtain ⟨t197, e_t197, h⟩ := q_bind h
        refine aw_gtr d_Model_judge_197 fl_Model_30 (Or.inr ⟨_, rfl⟩) e_t197 ?_
        refine aw_aload_n d_Model_judge_200 rfl rfl ?_
        obtain ⟨t201, e_t201, h⟩ := q_bind h
        refine aw_gtr d_Model_judge_201 fl_Model_87 (Or.inr ⟨_, rfl⟩) e_t201 ?_
        refine aw_iconst (v := 0) d_Model_judge_204 (by decide) ?_
        obtain ⟨t205, e_t205, h⟩ := q_bind h
        refine aw_ldi d_Model_judge_205 e_t205 ?_
        obtain ⟨t206, e_t206, h⟩ := q_bind h
        refine aw_ldi d_Model_judge_206 e_t206 ?_
        refine aw_icmp_eq (tgt := 213) d_Model_judge_207 (by decide) (fun hc => ?_) (fun hc => ?_)
        · rw [if_pos hc] at h
          refine aw_aload_n d_Model_judge_213 rfl rfl ?_
          obtain ⟨t214, e_t214, h⟩ := q_bind h
          refine aw_gtr d_Model_judge_214 fl_Model_99 (Or.inr ⟨_, rfl⟩) e_t214 ?_
          refine aw_aload_n d_Model_judge_217 rfl rfl ?_
          obtain ⟨t218, e_t218, h⟩ := q_bind h
          refine aw_gti d_Model_judge_218 fl_Model_200 (Or.inl rfl) e_t218 ?_
          refine aw_iconst (v := 1) d_Model_judge_221 (by decide) ?_
          refine aw_isub d_Model_judge_222 ?_
          obtain ⟨t223, e_t223, h⟩ := q_bind h
          refine aw_ldi d_Model_judge_223 e_t223 ?_
          refine aw_aload_n d_Model_judge_224 rfl rfl ?_
          obtain ⟨t225, e_t225, h⟩ := q_bind h
          refine aw_gtr d_Model_judge_225 fl_Model_96 (Or.inr ⟨_, rfl⟩) e_t225 ?_
          refine aw_iconst (v := 0) d_Model_judge_228 (by decide) ?_
          obtain ⟨t229, e_t229, h⟩ := q_bind h
          refine aw_ldi d_Model_judge_229 e_t229 ?_
          refine aw_isub d_Model_judge_230 ?_
          refine aw_aload_n d_Model_judge_231 rfl rfl ?_
          obtain ⟨t232, e_t232, h⟩ := q_bind h
          refine aw_gtr d_Model_judge_232 fl_Model_78 (Or.inr ⟨_, rfl⟩) e_t232 ?_
          refine aw_bipush (v := 7) d_Model_judge_235 (by decide) ?_
          obtain ⟨t237, e_t237, h⟩ := q_bind h
          refine aw_ldi d_Model_judge_237 e_t237 ?_
          refine aw_icmp_le (tgt := 244) d_Model_judge_238 (by decide) (fun hc => ?_) (fun hc => ?_)
          · rw [if_pos hc] at h
            refine aw_iload_n d_Model_judge_244 rfl rfl ?_
            refine aw_if_ge (tgt := 252) d_Model_judge_245 (by decide) (fun hc => ?_) (fun hc => ?_)
            · rw [if_pos hc] at h
              refine aw_aload_n d_Model_judge_252 rfl rfl ?_
              refine aw_iload_n d_Model_judge_253 rfl rfl ?_
              obtain ⟨o254, e_o254, h⟩ := q_bind h
              obtain ⟨t254, e_t254, h⟩ := q_bind h
              refine aw_cV (v := (some (.int t254))) (As := [.int x1]) (rest := []) (st' := [.int t254]) d_Model_judge_254 kV_Model_213 (q_ob_spec e_o254).1 (q_ob_spec e_o254).2 ⟨Nat.le_of_ble_eq_true rfl, Nat.le_of_ble_eq_true rfl, Nat.le_of_ble_eq_true rfl, Nat.le_of_ble_eq_true rfl⟩ rfl rfl (Nat.le_of_ble_eq_true rfl) rfl (mt_Model_crewRule e_t254) ?_
              cases h
              exact aw_ireturn d_Model_judge_257 rfl (Nat.le_of_ble_eq_true rfl) (Nat.le_of_ble_eq_true rfl) ⟨rfl, rfl⟩
            · rw [if_neg hc] at h
              refine aw_iconst (v := 0) d_Model_judge_248 (by decide) ?_
              refine aw_goto (tgt := 257) d_Model_judge_249 (by decide) ?_
              cases h
              exact aw_ireturn d_Model_judge_257 rfl (Nat.le_of_ble_eq_true rfl) (Nat.le_of_ble_eq_true rfl) ⟨rfl, rfl⟩
          · rw [if_neg hc] at h
            refine aw_bipush (v := 9) d_Model_judge_241 (by decide) ?_
            cases h
            exact aw_ireturn d_Model_judge_243 rfl (Nat.le_of_ble_eq_true rfl) (Nat.le_of_ble_eq_true rfl) ⟨rfl, rfl⟩
        · rw [if_neg hc] at h
          refine aw_bipush (v := 8) d_Model_judge_210 (by decide) ?_
          cases h
          exact aw_ireturn d_Model_judge_212 rfl (Nat.le_of_ble_eq_true rfl) (Nat.le_of_ble_eq_true rfl) ⟨rfl, rfl⟩
      · rw [if_neg hc] at h
        refine aw_bipush (v := 7) d_Model_judge_177 (by decide) ?_
        cases h
        exact aw_ireturn d_Model_judge_179 rfl (Nat.le_of_ble_eq_true rfl) (Nat.le_of_ble_eq_true rfl) ⟨rfl, rfl⟩
    · rw [if_neg hc] at h
      refine aw_iload_n d_Model_judge_161 rfl rfl ?_
      cases h
      exact aw_ireturn d_Model_judge_162 rfl (Nat.le_of_ble_eq_true rfl) (Nat.le_of_ble_eq_true rfl) ⟨rfl, rfl⟩
  · rw [if_neg hc] at h
    refine aw_aload_n d_Model_judge_83 rfl rfl ?_
    obtain ⟨t84, e_t84, h⟩ := q_bind h
    refine aw_gtr d_Model_judge_84 fl_Model_30 (Or.inr ⟨_, rfl⟩) e_t84 ?_
    refine aw_aload_n d_Model_judge_87 rfl rfl ?_
    obtain ⟨t88, e_t88, h⟩ := q_bind h
    refine aw_gtr d_Model_judge_88 fl_Model_87 (Or.inr ⟨_, rfl⟩) e_t88 ?_
    refine aw_iload_n d_Model_judge_91 rfl rfl ?_
    obtain ⟨t92, e_t92, h⟩ := q_bind h
    refine aw_ldi d_Model_judge_92 e_t92 ?_
    obtain ⟨t93, e_t93, h⟩ := q_bind h
    refine aw_ldi d_Model_judge_93 e_t93 ?_
    refine aw_aload_n d_Model_judge_94 rfl rfl ?_
    obtain ⟨t95, e_t95, h⟩ := q_bind h
    refine aw_gtr d_Model_judge_95 fl_Model_33 (Or.inr ⟨_, rfl⟩) e_t95 ?_
    refine aw_aload_n d_Model_judge_98 rfl rfl ?_
    obtain ⟨t99, e_t99, h⟩ := q_bind h
    refine aw_gtr d_Model_judge_99 fl_Model_87 (Or.inr ⟨_, rfl⟩) e_t99 ?_
    refine aw_iload_n d_Model_judge_102 rfl rfl ?_
    refine aw_iconst (v := 1) d_Model_judge_103 (by decide) ?_
    refine aw_isub d_Model_judge_104 ?_
    obtain ⟨t105, e_t105, h⟩ := q_bind h
    refine aw_ldi d_Model_judge_105 e_t105 ?_
    obtain ⟨t106, e_t106, h⟩ := q_bind h
    refine aw_ldi d_Model_judge_106 e_t106 ?_
    refine aw_icmp_ne (tgt := 144) d_Model_judge_107 (by decide) (fun hc => ?_) (fun hc => ?_)
    · rw [if_neg hc] at h
      refine aw_iconst (v := 2) d_Model_judge_144 (by decide) ?_
      cases h
      exact aw_ireturn d_Model_judge_145 rfl (Nat.le_of_ble_eq_true rfl) (Nat.le_of_ble_eq_true rfl) ⟨rfl, rfl⟩
    · rw [if_pos hc] at h
      refine aw_aload_n d_Model_judge_110 rfl rfl ?_
      obtain ⟨t111, e_t111, h⟩ := q_bind h
      refine aw_gtr d_Model_judge_111 fl_Model_36 (Or.inr ⟨_, rfl⟩) e_t111 ?_
      refine aw_aload_n d_Model_judge_114 rfl rfl ?_
      obtain ⟨t115, e_t115, h⟩ := q_bind h
      refine aw_gtr d_Model_judge_115 fl_Model_87 (Or.inr ⟨_, rfl⟩) e_t115 ?_
      refine aw_iload_n d_Model_judge_118 rfl rfl ?_
      obtain ⟨t119, e_t119, h⟩ := q_bind h
      refine aw_ldi d_Model_judge_119 e_t119 ?_
      obtain ⟨t120, e_t120, h⟩ := q_bind h
      refine aw_ldi d_Model_judge_120 e_t120 ?_
      refine aw_aload_n d_Model_judge_121 rfl rfl ?_
      obtain ⟨t122, e_t122, h⟩ := q_bind h
      refine aw_gtr d_Model_judge_122 fl_Model_39 (Or.inr ⟨_, rfl⟩) e_t122 ?_
      refine aw_aload_n d_Model_judge_125 rfl rfl ?_
      obtain ⟨t126, e_t126, h⟩ := q_bind h
      refine aw_gtr d_Model_judge_126 fl_Model_87 (Or.inr ⟨_, rfl⟩) e_t126 ?_
      refine aw_iload_n d_Model_judge_129 rfl rfl ?_
      refine aw_iconst (v := 1) d_Model_judge_130 (by decide) ?_
      refine aw_isub d_Model_judge_131 ?_
      obtain ⟨t132, e_t132, h⟩ := q_bind h
      refine aw_ldi d_Model_judge_132 e_t132 ?_
      obtain ⟨t133, e_t133, h⟩ := q_bind h
      refine aw_ldi d_Model_judge_133 e_t133 ?_
      refine aw_aload_n d_Model_judge_134 rfl rfl ?_
      obtain ⟨t135, e_t135, h⟩ := q_bind h
      refine aw_gtr d_Model_judge_135 fl_Model_78 (Or.inr ⟨_, rfl⟩) e_t135 ?_
      refine aw_iconst (v := 2) d_Model_judge_138 (by decide) ?_
      obtain ⟨t139, e_t139, h⟩ := q_bind h
      refine aw_ldi d_Model_judge_139 e_t139 ?_
      refine aw_iadd d_Model_judge_140 ?_
      refine aw_icmp_ge (tgt := 146) d_Model_judge_141 (by decide) (fun hc => ?_) (fun hc => ?_)
      · rw [if_pos hc] at h
        refine aw_iinc (v := (x3 + (1 : Int32))) (ls' := [(3, .int _), (0, .ref _), (1, .int _)]) d_Model_judge_146 rfl rfl (Nat.le_of_ble_eq_true rfl) rfl ?_
        refine aw_goto (tgt := 75) d_Model_judge_149 (by decide) ?_
        exact aw_pick [1, 2, 0] rfl (ih_5 _ _ _ _ _ _ h)
      · rw [if_neg hc] at h
        refine aw_iconst (v := 2) d_Model_judge_144 (by decide) ?_
        cases h
        exact aw_ireturn d_Model_judge_145 rfl (Nat.le_of_ble_eq_true rfl) (Nat.le_of_ble_eq_true rfl) ⟨rfl, rfl⟩
theorem l_Model_judge {res : Int32} {M' : am_M} : ∀ F : Nat, (∀ (r0 : Nat) (x1 : Int32) (x2 : Int32) (x3 : Int32) (s0 : Int32) (M : am_M), g_Model_judge F 0 r0 x1 x2 x3 s0 M = some (res, M') → AW u_Model_judge R_Model_judge 0 0 8 [(0, .ref r0), (1, .int x1), (2, .int x2), (3, .int x3)] [] M (fun r M2 => r = .inl (some (.int res)) ∧ M2 = M')) ∧ (∀ (r0 : Nat) (x1 : Int32) (x2 : Int32) (x3 : Int32) (s0 : Int32) (M : am_M), g_Model_judge F 1 r0 x1 x2 x3 s0 M = some (res, M') → AW u_Model_judge R_Model_judge 0 0 35 [(0, .ref r0), (1, .int x1), (3, .int x3)] [] M (fun r M2 => r = .inl (some (.int res)) ∧ M2 = M')) ∧ (∀ (r0 : Nat) (x1 : Int32) (x2 : Int32) (x3 : Int32) (s0 : Int32) (M : am_M), g_Model_judge F 2 r0 x1 x2 x3 s0 M = some (res, M') → AW u_Model_judge R_Model_judge 0 0 55 [(0, .ref r0), (1, .int x1), (3, .int x3)] [] M (fun r M2 => r = .inl (some (.int res)) ∧ M2 = M')) ∧ (∀ (r0 : Nat) (x1 : Int32) (x2 : Int32) (x3 : Int32) (s0 : Int32) (M : am_M), g_Model_judge F 3 r0 x1 x2 x3 s0 M = some (res, M') → AW u_Model_judge R_Model_judge 0 0 59 [(0, .ref r0), (1, .int x1), (3, .int x3)] [] M (fun r M2 => r = .inl (some (.int res)) ∧ M2 = M')) ∧ (∀ (r0 : Nat) (x1 : Int32) (x2 : Int32) (x3 : Int32) (s0 : Int32) (M : am_M), g_Model_judge F 4 r0 x1 x2 x3 s0 M = some (res, M') → AW u_Model_judge R_Model_judge 0 0 60 [(0, .ref r0), (1, .int x1), (3, .int x3)] [.int s0] M (fun r M2 => r = .inl (some (.int res)) ∧ M2 = M')) ∧ (∀ (r0 : Nat) (x1 : Int32) (x2 : Int32) (x3 : Int32) (s0 : Int32) (M : am_M), g_Model_judge F 5 r0 x1 x2 x3 s0 M = some (res, M') → AW u_Model_judge R_Model_judge 0 0 75 [(0, .ref r0), (1, .int x1), (3, .int x3)] [] M (fun r M2 => r = .inl (some (.int res)) ∧ M2 = M')) := by
  intro F
  induction F with
  | zero => exact ⟨fun _ _ _ _ _ _  h => (by cases h), fun _ _ _ _ _ _  h => (by cases h), fun _ _ _ _ _ _  h => (by cases h), fun _ _ _ _ _ _  h => (by cases h), fun _ _ _ _ _ _  h => (by cases h), fun _ _ _ _ _ _  h => (by cases h)⟩
  | succ F ih =>
    obtain ⟨ih0, ih1, ih2, ih3, ih4, ih5⟩ := ih
    exact ⟨s_Model_judge_0 ih0 ih1 ih2 ih3 ih4 ih5, s_Model_judge_1 ih0 ih1 ih2 ih3 ih4 ih5, s_Model_judge_2 ih0 ih1 ih2 ih3 ih4 ih5, s_Model_judge_3 ih0 ih1 ih2 ih3 ih4 ih5, s_Model_judge_4 ih0 ih1 ih2 ih3 ih4 ih5, s_Model_judge_5 ih0 ih1 ih2 ih3 ih4 ih5⟩
set_option maxHeartbeats 4000000 in
theorem mt_Model_judge {M : am_M} {a0 : Nat} {a1 : Int32} {res : Int32} {M' : am_M} (h : f_Model_judge M a0 a1 = some (res, M')) : AMet y_Model_judge u_Model_judge R_Model_judge [.ref a0, .int a1] M (fun r M2 => r = .inl (some (.int res)) ∧ M2 = M') := by
  refine am_met (by decide +kernel) w_Model_judge rfl rfl (Nat.le_of_ble_eq_true rfl) ?_
  show AW u_Model_judge R_Model_judge 0 0 0 [(0, .ref a0), (1, .int a1)] [] M (fun r M2 => r = .inl (some (.int res)) ∧ M2 = M')
  have ih_0 := (l_Model_judge (res := res) (M' := M') 1000000000).1
  have ih_1 := (l_Model_judge (res := res) (M' := M') 1000000000).2.1
  have ih_2 := (l_Model_judge (res := res) (M' := M') 1000000000).2.2.1
  have ih_3 := (l_Model_judge (res := res) (M' := M') 1000000000).2.2.2.1
  have ih_4 := (l_Model_judge (res := res) (M' := M') 1000000000).2.2.2.2.1
  have ih_5 := (l_Model_judge (res := res) (M' := M') 1000000000).2.2.2.2.2
  unfold f_Model_judge at h
  unfold e_Model_judge at h
  generalize g_Model_judge 1000000000 = rc at h ih_0 ih_1 ih_2 ih_3 ih_4 ih_5
  refine aw_aload_n d_Model_judge_0 rfl rfl ?_
  obtain ⟨o1, e_o1, h⟩ := q_bind h
  obtain ⟨⟨t1, M1⟩, e_t1, h⟩ := q_bind h
  dsimp only at h
  refine aw_cV (v := none) (As := []) (rest := []) (st' := []) d_Model_judge_1 kV_Model_206 (q_ob_spec e_o1).1 (q_ob_spec e_o1).2 ⟨Nat.le_of_ble_eq_true rfl, Nat.le_of_ble_eq_true rfl, Nat.le_of_ble_eq_true rfl, Nat.le_of_ble_eq_true rfl⟩ rfl rfl (Nat.le_of_ble_eq_true rfl) rfl (mt_Model_parts e_t1) ?_
  refine aw_iconst (v := 0) d_Model_judge_4 (by decide) ?_
  refine aw_istore_n (ls' := [(2, .int _), (0, .ref _), (1, .int _)]) d_Model_judge_5 rfl (Nat.le_of_ble_eq_true rfl) rfl ?_
  refine aw_iconst (v := 0) d_Model_judge_6 (by decide) ?_
  refine aw_istore_n (ls' := [(3, .int _), (2, .int _), (0, .ref _), (1, .int _)]) d_Model_judge_7 rfl (Nat.le_of_ble_eq_true rfl) rfl ?_
  exact aw_pick [2, 3, 1, 0] rfl (ih_0 _ _ _ _ _ _ h)
