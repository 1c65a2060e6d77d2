-- Trip_canBeMeasured Trip_legAt Trip_measure Trip_legsOf Trip_lengthOf Trip_isLinked Trip_hasTooManyLegs Work_copy Work_hasFlight Work_touchesDay
def y_Trip_canBeMeasured : MethodName := ⟨"CrewOffice$Trip", "canBeMeasured", "()Z"⟩
def u_Trip_canBeMeasured : am_U := ("CrewOffice$Trip", "canBeMeasured", prog_9_method_3_code, 2, (some .boolean), [])
def R_Trip_canBeMeasured : Room := { frames := 0, cells := 0, slots := 0, locals := 0 }
theorem d_Trip_canBeMeasured_0 : decode u_Trip_canBeMeasured.2.2.1 0 = .ok (.iconst 0, 1) := by decide +kernel
theorem d_Trip_canBeMeasured_1 : decode u_Trip_canBeMeasured.2.2.1 1 = .ok (.istore_n 1, 1) := by decide +kernel
theorem d_Trip_canBeMeasured_2 : decode u_Trip_canBeMeasured.2.2.1 2 = .ok (.iload_n 1, 1) := by decide +kernel
theorem d_Trip_canBeMeasured_3 : decode u_Trip_canBeMeasured.2.2.1 3 = .ok (.aload_n 0, 1) := by decide +kernel
theorem d_Trip_canBeMeasured_4 : decode u_Trip_canBeMeasured.2.2.1 4 = .ok (.getfield 12, 3) := by decide +kernel
theorem d_Trip_canBeMeasured_7 : decode u_Trip_canBeMeasured.2.2.1 7 = .ok (.getfield 35, 3) := by decide +kernel
theorem d_Trip_canBeMeasured_10 : decode u_Trip_canBeMeasured.2.2.1 10 = .ok (.if_icmp .ge 34, 3) := by decide +kernel
theorem d_Trip_canBeMeasured_13 : decode u_Trip_canBeMeasured.2.2.1 13 = .ok (.aload_n 0, 1) := by decide +kernel
theorem d_Trip_canBeMeasured_14 : decode u_Trip_canBeMeasured.2.2.1 14 = .ok (.getfield 28, 3) := by decide +kernel
theorem d_Trip_canBeMeasured_17 : decode u_Trip_canBeMeasured.2.2.1 17 = .ok (.getfield 39, 3) := by decide +kernel
theorem d_Trip_canBeMeasured_20 : decode u_Trip_canBeMeasured.2.2.1 20 = .ok (.aload_n 0, 1) := by decide +kernel
theorem d_Trip_canBeMeasured_21 : decode u_Trip_canBeMeasured.2.2.1 21 = .ok (.getfield 12, 3) := by decide +kernel
theorem d_Trip_canBeMeasured_24 : decode u_Trip_canBeMeasured.2.2.1 24 = .ok (.getfield 32, 3) := by decide +kernel
theorem d_Trip_canBeMeasured_27 : decode u_Trip_canBeMeasured.2.2.1 27 = .ok (.iload_n 1, 1) := by decide +kernel
theorem d_Trip_canBeMeasured_28 : decode u_Trip_canBeMeasured.2.2.1 28 = .ok (.iaload, 1) := by decide +kernel
theorem d_Trip_canBeMeasured_29 : decode u_Trip_canBeMeasured.2.2.1 29 = .ok (.aaload, 1) := by decide +kernel
theorem d_Trip_canBeMeasured_30 : decode u_Trip_canBeMeasured.2.2.1 30 = .ok (.getfield 45, 3) := by decide +kernel
theorem d_Trip_canBeMeasured_33 : decode u_Trip_canBeMeasured.2.2.1 33 = .ok (.ifCond .ne 5, 3) := by decide +kernel
theorem d_Trip_canBeMeasured_36 : decode u_Trip_canBeMeasured.2.2.1 36 = .ok (.iconst 0, 1) := by decide +kernel
theorem d_Trip_canBeMeasured_37 : decode u_Trip_canBeMeasured.2.2.1 37 = .ok (.ireturn, 1) := by decide +kernel
theorem d_Trip_canBeMeasured_38 : decode u_Trip_canBeMeasured.2.2.1 38 = .ok (.iinc 1 1, 3) := by decide +kernel
theorem d_Trip_canBeMeasured_41 : decode u_Trip_canBeMeasured.2.2.1 41 = .ok (.goto (-39), 3) := by decide +kernel
theorem d_Trip_canBeMeasured_44 : decode u_Trip_canBeMeasured.2.2.1 44 = .ok (.aload_n 0, 1) := by decide +kernel
theorem d_Trip_canBeMeasured_45 : decode u_Trip_canBeMeasured.2.2.1 45 = .ok (.getfield 12, 3) := by decide +kernel
theorem d_Trip_canBeMeasured_48 : decode u_Trip_canBeMeasured.2.2.1 48 = .ok (.getfield 35, 3) := by decide +kernel
theorem d_Trip_canBeMeasured_51 : decode u_Trip_canBeMeasured.2.2.1 51 = .ok (.ifCond .le 7, 3) := by decide +kernel
theorem d_Trip_canBeMeasured_54 : decode u_Trip_canBeMeasured.2.2.1 54 = .ok (.iconst 1, 1) := by decide +kernel
theorem d_Trip_canBeMeasured_55 : decode u_Trip_canBeMeasured.2.2.1 55 = .ok (.goto 4, 3) := by decide +kernel
theorem d_Trip_canBeMeasured_58 : decode u_Trip_canBeMeasured.2.2.1 58 = .ok (.iconst 0, 1) := by decide +kernel
theorem d_Trip_canBeMeasured_59 : decode u_Trip_canBeMeasured.2.2.1 59 = .ok (.ireturn, 1) := by decide +kernel
theorem w_Trip_canBeMeasured : am_code y_Trip_canBeMeasured u_Trip_canBeMeasured ∈ am_ws := am_mem (List.mem_of_getElem? (i := 836) (by decide +kernel)) rfl
def a_Trip_canBeMeasured_0 (rc : Nat → Nat → Int32 → am_M → Option (Int32)) (r0 : Nat) (x1 : Int32) (M : am_M) : Option (Int32) := (q_gtr M r0 5 1).bind (fun t4 => (q_gti M t4 4 1).bind (fun t7 => if t7 ≤ x1 then ((q_gtr M r0 5 1).bind (fun t45 => (q_gti M t45 4 1).bind (fun t48 => if t48 ≤ 0 then (some (0 : Int32)) else (some (1 : Int32))))) else ((q_gtr M r0 5 0).bind (fun t14 => (q_gtr M t14 3 1).bind (fun t17 => (q_gtr M r0 5 1).bind (fun t21 => (q_gtr M t21 4 0).bind (fun t24 => (q_ldi M t24 x1).bind (fun t28 => (q_ldr M t17 t28).bind (fun t29 => (q_gti M t29 1 0).bind (fun t30 => if t30 = 0 then (some (0 : Int32)) else (rc 0 r0 (x1 + (1 : Int32)) M)))))))))))
def g_Trip_canBeMeasured : Nat → Nat → Nat → Int32 → am_M → Option (Int32)
  | 0, _, _, _, _ => none
  | F + 1, 0, r0, x1, M => a_Trip_canBeMeasured_0 (g_Trip_canBeMeasured F) r0 x1 M
  | _ + 1, _ + 1, _, _, _ => none
def e_Trip_canBeMeasured (rc : Nat → Nat → Int32 → am_M → Option (Int32)) (M : am_M) (a0 : Nat) : Option (Int32) := rc 0 a0 (0 : Int32) M
def f_Trip_canBeMeasured (M : am_M) (a0 : Nat) : Option (Int32) := e_Trip_canBeMeasured (g_Trip_canBeMeasured 1000000000) M a0
theorem fl_Trip_28 : am_fl "CrewOffice$Trip" 28 5 0 := ⟨by decide, by decide, List.mem_of_getElem? (i := 311) (by decide +kernel)⟩
theorem fl_Trip_39 : am_fl "CrewOffice$Trip" 39 3 1 := ⟨by decide, by decide, List.mem_of_getElem? (i := 221) (by decide +kernel)⟩
theorem fl_Trip_45 : am_fl "CrewOffice$Trip" 45 1 0 := ⟨by decide, by decide, List.mem_of_getElem? (i := 129) (by decide +kernel)⟩
set_option maxHeartbeats 4000000 in
theorem s_Trip_canBeMeasured_0 {rc : Nat → Nat → Int32 → am_M → Option (Int32)} {res : Int32} (ih_0 : ∀ (r0 : Nat) (x1 : Int32) (M : am_M), rc 0 r0 x1 M = some res → AW u_Trip_canBeMeasured R_Trip_canBeMeasured 0 0 2 [(0, .ref r0), (1, .int x1)] [] M (fun r M2 => r = .inl (some (.int res)) ∧ M2 = M)) : ∀ (r0 : Nat) (x1 : Int32) (M : am_M), a_Trip_canBeMeasured_0 rc r0 x1 M = some res → AW u_Trip_canBeMeasured R_Trip_canBeMeasured 0 0 2 [(0, .ref r0), (1, .int x1)] [] M (fun r M2 => r = .inl (some (.int res)) ∧ M2 = M) := by
  intro r0 x1 M h
  unfold a_Trip_canBeMeasured_0 at h
  refine aw_iload_n d_Trip_canBeMeasured_2 rfl rfl ?_
  refine aw_aload_n d_Trip_canBeMeasured_3 rfl rfl ?_
  obtain ⟨t4, e_t4, h⟩ := q_bind h
  refine aw_gtr d_Trip_canBeMeasured_4 fl_Trip_12 (Or.inl ⟨_, rfl⟩) e_t4 ?_
  obtain ⟨t7, e_t7, h⟩ := q_bind h
  refine aw_gti d_Trip_canBeMeasured_7 fl_Trip_35 (Or.inl rfl) e_t7 ?_
  refine aw_icmp_ge (tgt := 44) d_Trip_canBeMeasured_10 (by decide) (fun hc => ?_) (fun hc => ?_)
  · rw [if_pos hc] at h
    refine aw_aload_n d_Trip_canBeMeasured_44 rfl rfl ?_
    obtain ⟨t45, e_t45, h⟩ := q_bind h
    refine aw_gtr d_Trip_canBeMeasured_45 fl_Trip_12 (Or.inl ⟨_, rfl⟩) e_t45 ?_
    obtain ⟨t48, e_t48, h⟩ := q_bind h
    refine aw_gti d_Trip_canBeMeasured_48 fl_Trip_35 (Or.inl rfl) e_t48 ?_
    refine aw_if_le (tgt := 58) d_Trip_canBeMeasured_51 (by decide) (fun hc => ?_) (fun hc => ?_)
    · rw [if_pos hc] at h
      refine aw_iconst (v := 0) d_Trip_canBeMeasured_58 (by decide) ?_
      cases h
      exact aw_zreturn d_Trip_canBeMeasured_59 rfl (by decide) (Nat.le_of_ble_eq_true rfl) (Nat.le_of_ble_eq_true rfl) ⟨rfl, rfl⟩
    · rw [if_neg hc] at h
      refine aw_iconst (v := 1) d_Trip_canBeMeasured_54 (by decide) ?_
      refine aw_goto (tgt := 59) d_Trip_canBeMeasured_55 (by decide) ?_
      cases h
      exact aw_zreturn d_Trip_canBeMeasured_59 rfl (by decide) (Nat.le_of_ble_eq_true rfl) (Nat.le_of_ble_eq_true rfl) ⟨rfl, rfl⟩
  · rw [if_neg hc] at h
    refine aw_aload_n d_Trip_canBeMeasured_13 rfl rfl ?_
    obtain ⟨t14, e_t14, h⟩ := q_bind h
    refine aw_gtr d_Trip_canBeMeasured_14 fl_Trip_28 (Or.inl ⟨_, rfl⟩) e_t14 ?_
    obtain ⟨t17, e_t17, h⟩ := q_bind h
    refine aw_gtr d_Trip_canBeMeasured_17 fl_Trip_39 (Or.inr ⟨_, rfl⟩) e_t17 ?_
    refine aw_aload_n d_Trip_canBeMeasured_20 rfl rfl ?_
    obtain ⟨t21, e_t21, h⟩ := q_bind h
    refine aw_gtr d_Trip_canBeMeasured_21 fl_Trip_12 (Or.inl ⟨_, rfl⟩) e_t21 ?_
    obtain ⟨t24, e_t24, h⟩ := q_bind h
    refine aw_gtr d_Trip_canBeMeasured_24 fl_Trip_32 (Or.inr ⟨_, rfl⟩) e_t24 ?_
    refine aw_iload_n d_Trip_canBeMeasured_27 rfl rfl ?_
    obtain ⟨t28, e_t28, h⟩ := q_bind h
    refine aw_ldi d_Trip_canBeMeasured_28 e_t28 ?_
    obtain ⟨t29, e_t29, h⟩ := q_bind h
    refine aw_ldr d_Trip_canBeMeasured_29 e_t29 ?_
    obtain ⟨t30, e_t30, h⟩ := q_bind h
    refine aw_gti d_Trip_canBeMeasured_30 fl_Trip_45 (Or.inr rfl) e_t30 ?_
    refine aw_if_ne (tgt := 38) d_Trip_canBeMeasured_33 (by decide) (fun hc => ?_) (fun hc => ?_)
    · rw [if_neg hc] at h
      refine aw_iinc (v := (x1 + (1 : Int32))) (ls' := [(1, .int _), (0, .ref _)]) d_Trip_canBeMeasured_38 rfl rfl (Nat.le_of_ble_eq_true rfl) rfl ?_
      refine aw_goto (tgt := 2) d_Trip_canBeMeasured_41 (by decide) ?_
      exact aw_pick [1, 0] rfl (ih_0 _ _ _ h)
    · rw [if_pos hc] at h
      refine aw_iconst (v := 0) d_Trip_canBeMeasured_36 (by decide) ?_
      cases h
      exact aw_zreturn d_Trip_canBeMeasured_37 rfl (by decide) (Nat.le_of_ble_eq_true rfl) (Nat.le_of_ble_eq_true rfl) ⟨rfl, rfl⟩
theorem l_Trip_canBeMeasured {res : Int32} : ∀ F : Nat, (∀ (r0 : Nat) (x1 : Int32) (M : am_M), g_Trip_canBeMeasured F 0 r0 x1 M = some res → AW u_Trip_canBeMeasured R_Trip_canBeMeasured 0 0 2 [(0, .ref r0), (1, .int x1)] [] M (fun r M2 => r = .inl (some (.int res)) ∧ M2 = M)) := by
  intro F
  induction F with
  | zero => exact fun _ _ _  h => (by cases h)
  | succ F ih =>
    have ih0 := ih
    exact s_Trip_canBeMeasured_0 ih0
set_option maxHeartbeats 4000000 in
theorem mt_Trip_canBeMeasured {M : am_M} {a0 : Nat} {res : Int32} (h : f_Trip_canBeMeasured M a0 = some res) : AMet y_Trip_canBeMeasured u_Trip_canBeMeasured R_Trip_canBeMeasured [.ref a0] M (fun r M2 => r = .inl (some (.int res)) ∧ M2 = M) := by
  refine am_met (by decide +kernel) w_Trip_canBeMeasured rfl rfl (Nat.le_of_ble_eq_true rfl) ?_
  show AW u_Trip_canBeMeasured R_Trip_canBeMeasured 0 0 0 [(0, .ref a0)] [] M (fun r M2 => r = .inl (some (.int res)) ∧ M2 = M)
  have ih_0 := (l_Trip_canBeMeasured (res := res) 1000000000)
  unfold f_Trip_canBeMeasured at h
  unfold e_Trip_canBeMeasured at h
  generalize g_Trip_canBeMeasured 1000000000 = rc at h ih_0
  refine aw_iconst (v := 0) d_Trip_canBeMeasured_0 (by decide) ?_
  refine aw_istore_n (ls' := [(1, .int _), (0, .ref _)]) d_Trip_canBeMeasured_1 rfl (Nat.le_of_ble_eq_true rfl) rfl ?_
  exact aw_pick [1, 0] rfl (ih_0 _ _ _ h)
def y_Trip_legAt : MethodName := ⟨"CrewOffice$Trip", "legAt", "(I)LCrewOffice$Leg;"⟩
def u_Trip_legAt : am_U := ("CrewOffice$Trip", "legAt", prog_9_method_4_code, 2, (some (.object "CrewOffice$Leg")), [])
def R_Trip_legAt : Room := { frames := 0, cells := 0, slots := 0, locals := 0 }
theorem d_Trip_legAt_0 : decode u_Trip_legAt.2.2.1 0 = .ok (.aload_n 0, 1) := by decide +kernel
theorem d_Trip_legAt_1 : decode u_Trip_legAt.2.2.1 1 = .ok (.getfield 28, 3) := by decide +kernel
theorem d_Trip_legAt_4 : decode u_Trip_legAt.2.2.1 4 = .ok (.getfield 39, 3) := by decide +kernel
theorem d_Trip_legAt_7 : decode u_Trip_legAt.2.2.1 7 = .ok (.aload_n 0, 1) := by decide +kernel
theorem d_Trip_legAt_8 : decode u_Trip_legAt.2.2.1 8 = .ok (.getfield 12, 3) := by decide +kernel
theorem d_Trip_legAt_11 : decode u_Trip_legAt.2.2.1 11 = .ok (.getfield 32, 3) := by decide +kernel
theorem d_Trip_legAt_14 : decode u_Trip_legAt.2.2.1 14 = .ok (.iload_n 1, 1) := by decide +kernel
theorem d_Trip_legAt_15 : decode u_Trip_legAt.2.2.1 15 = .ok (.iaload, 1) := by decide +kernel
theorem d_Trip_legAt_16 : decode u_Trip_legAt.2.2.1 16 = .ok (.aaload, 1) := by decide +kernel
theorem d_Trip_legAt_17 : decode u_Trip_legAt.2.2.1 17 = .ok (.areturn, 1) := by decide +kernel
theorem w_Trip_legAt : am_code y_Trip_legAt u_Trip_legAt ∈ am_ws := am_mem (List.mem_of_getElem? (i := 501) (by decide +kernel)) rfl
def e_Trip_legAt (M : am_M) (a0 : Nat) (a1 : Int32) : Option (Nat) := (q_gtr M a0 5 0).bind (fun t1 => (q_gtr M t1 3 1).bind (fun t4 => (q_gtr M a0 5 1).bind (fun t8 => (q_gtr M t8 4 0).bind (fun t11 => (q_ldi M t11 a1).bind (fun t15 => (q_ldr M t4 t15).bind (fun t16 => some t16))))))
def f_Trip_legAt (M : am_M) (a0 : Nat) (a1 : Int32) : Option (Nat) := e_Trip_legAt M a0 a1
set_option maxHeartbeats 4000000 in
theorem mt_Trip_legAt {M : am_M} {a0 : Nat} {a1 : Int32} {res : Nat} (h : f_Trip_legAt M a0 a1 = some res) : AMet y_Trip_legAt u_Trip_legAt R_Trip_legAt [.ref a0, .int a1] M (fun r M2 => r = .inl (some (.ref res)) ∧ M2 = M) := by
  refine am_met (by decide +kernel) w_Trip_legAt rfl rfl (Nat.le_of_ble_eq_true rfl) ?_
  show AW u_Trip_legAt R_Trip_legAt 0 0 0 [(0, .ref a0), (1, .int a1)] [] M (fun r M2 => r = .inl (some (.ref res)) ∧ M2 = M)
  unfold f_Trip_legAt at h
  unfold e_Trip_legAt at h
  refine aw_aload_n d_Trip_legAt_0 rfl rfl ?_
  obtain ⟨t1, e_t1, h⟩ := q_bind h
  refine aw_gtr d_Trip_legAt_1 fl_Trip_28 (Or.inl ⟨_, rfl⟩) e_t1 ?_
  obtain ⟨t4, e_t4, h⟩ := q_bind h
  refine aw_gtr d_Trip_legAt_4 fl_Trip_39 (Or.inr ⟨_, rfl⟩) e_t4 ?_
  refine aw_aload_n d_Trip_legAt_7 rfl rfl ?_
  obtain ⟨t8, e_t8, h⟩ := q_bind h
  refine aw_gtr d_Trip_legAt_8 fl_Trip_12 (Or.inl ⟨_, rfl⟩) e_t8 ?_
  obtain ⟨t11, e_t11, h⟩ := q_bind h
  refine aw_gtr d_Trip_legAt_11 fl_Trip_32 (Or.inr ⟨_, rfl⟩) e_t11 ?_
  refine aw_iload_n d_Trip_legAt_14 rfl rfl ?_
  obtain ⟨t15, e_t15, h⟩ := q_bind h
  refine aw_ldi d_Trip_legAt_15 e_t15 ?_
  obtain ⟨t16, e_t16, h⟩ := q_bind h
  refine aw_ldr d_Trip_legAt_16 e_t16 ?_
  cases h
  exact aw_areturn d_Trip_legAt_17 rfl (Nat.le_of_ble_eq_true rfl) (Nat.le_of_ble_eq_true rfl) ⟨rfl, rfl⟩
def y_Trip_measure : MethodName := ⟨"CrewOffice$Trip", "measure", "()V"⟩
def u_Trip_measure : am_U := ("CrewOffice$Trip", "measure", prog_9_method_5_code, 3, none, [])
def R_Trip_measure : Room := { frames := 1, cells := 0, slots := 0, locals := 21 }
theorem d_Trip_measure_0 : decode u_Trip_measure.2.2.1 0 = .ok (.aload_n 0, 1) := by decide +kernel
theorem d_Trip_measure_1 : decode u_Trip_measure.2.2.1 1 = .ok (.iconst 0, 1) := by decide +kernel
theorem d_Trip_measure_2 : decode u_Trip_measure.2.2.1 2 = .ok (.putfield 51, 3) := by decide +kernel
theorem d_Trip_measure_5 : decode u_Trip_measure.2.2.1 5 = .ok (.aload_n 0, 1) := by decide +kernel
theorem d_Trip_measure_6 : decode u_Trip_measure.2.2.1 6 = .ok (.getfield 12, 3) := by decide +kernel
theorem d_Trip_measure_9 : decode u_Trip_measure.2.2.1 9 = .ok (.iconst 0, 1) := by decide +kernel
theorem d_Trip_measure_10 : decode u_Trip_measure.2.2.1 10 = .ok (.putfield 54, 3) := by decide +kernel
theorem d_Trip_measure_13 : decode u_Trip_measure.2.2.1 13 = .ok (.aload_n 0, 1) := by decide +kernel
theorem d_Trip_measure_14 : decode u_Trip_measure.2.2.1 14 = .ok (.getfield 12, 3) := by decide +kernel
theorem d_Trip_measure_17 : decode u_Trip_measure.2.2.1 17 = .ok (.iconst 0, 1) := by decide +kernel
theorem d_Trip_measure_18 : decode u_Trip_measure.2.2.1 18 = .ok (.putfield 57, 3) := by decide +kernel
theorem d_Trip_measure_21 : decode u_Trip_measure.2.2.1 21 = .ok (.aload_n 0, 1) := by decide +kernel
theorem d_Trip_measure_22 : decode u_Trip_measure.2.2.1 22 = .ok (.getfield 12, 3) := by decide +kernel
theorem d_Trip_measure_25 : decode u_Trip_measure.2.2.1 25 = .ok (.iconst 0, 1) := by decide +kernel
theorem d_Trip_measure_26 : decode u_Trip_measure.2.2.1 26 = .ok (.putfield 60, 3) := by decide +kernel
theorem d_Trip_measure_29 : decode u_Trip_measure.2.2.1 29 = .ok (.iconst 0, 1) := by decide +kernel
theorem d_Trip_measure_30 : decode u_Trip_measure.2.2.1 30 = .ok (.istore_n 1, 1) := by decide +kernel
theorem d_Trip_measure_31 : decode u_Trip_measure.2.2.1 31 = .ok (.iload_n 1, 1) := by decide +kernel
theorem d_Trip_measure_32 : decode u_Trip_measure.2.2.1 32 = .ok (.aload_n 0, 1) := by decide +kernel
theorem d_Trip_measure_33 : decode u_Trip_measure.2.2.1 33 = .ok (.getfield 12, 3) := by decide +kernel
theorem d_Trip_measure_36 : decode u_Trip_measure.2.2.1 36 = .ok (.getfield 35, 3) := by decide +kernel
theorem d_Trip_measure_39 : decode u_Trip_measure.2.2.1 39 = .ok (.if_icmp .ge 176, 3) := by decide +kernel
theorem d_Trip_measure_42 : decode u_Trip_measure.2.2.1 42 = .ok (.aload_n 0, 1) := by decide +kernel
theorem d_Trip_measure_43 : decode u_Trip_measure.2.2.1 43 = .ok (.iload_n 1, 1) := by decide +kernel
theorem d_Trip_measure_44 : decode u_Trip_measure.2.2.1 44 = .ok (.invokevirtual 63, 3) := by decide +kernel
theorem d_Trip_measure_47 : decode u_Trip_measure.2.2.1 47 = .ok (.astore_n 2, 1) := by decide +kernel
theorem d_Trip_measure_48 : decode u_Trip_measure.2.2.1 48 = .ok (.iload_n 1, 1) := by decide +kernel
theorem d_Trip_measure_49 : decode u_Trip_measure.2.2.1 49 = .ok (.ifCond .eq 30, 3) := by decide +kernel
theorem d_Trip_measure_52 : decode u_Trip_measure.2.2.1 52 = .ok (.aload_n 2, 1) := by decide +kernel
theorem d_Trip_measure_53 : decode u_Trip_measure.2.2.1 53 = .ok (.getfield 67, 3) := by decide +kernel
theorem d_Trip_measure_56 : decode u_Trip_measure.2.2.1 56 = .ok (.aload_n 0, 1) := by decide +kernel
theorem d_Trip_measure_57 : decode u_Trip_measure.2.2.1 57 = .ok (.iload_n 1, 1) := by decide +kernel
theorem d_Trip_measure_58 : decode u_Trip_measure.2.2.1 58 = .ok (.iconst 1, 1) := by decide +kernel
theorem d_Trip_measure_59 : decode u_Trip_measure.2.2.1 59 = .ok (.isub, 1) := by decide +kernel
theorem d_Trip_measure_60 : decode u_Trip_measure.2.2.1 60 = .ok (.invokevirtual 63, 3) := by decide +kernel
theorem d_Trip_measure_63 : decode u_Trip_measure.2.2.1 63 = .ok (.getfield 70, 3) := by decide +kernel
theorem d_Trip_measure_66 : decode u_Trip_measure.2.2.1 66 = .ok (.isub, 1) := by decide +kernel
theorem d_Trip_measure_67 : decode u_Trip_measure.2.2.1 67 = .ok (.aload_n 0, 1) := by decide +kernel
theorem d_Trip_measure_68 : decode u_Trip_measure.2.2.1 68 = .ok (.getfield 28, 3) := by decide +kernel
theorem d_Trip_measure_71 : decode u_Trip_measure.2.2.1 71 = .ok (.getfield 73, 3) := by decide +kernel
theorem d_Trip_measure_74 : decode u_Trip_measure.2.2.1 74 = .ok (.iconst 3, 1) := by decide +kernel
theorem d_Trip_measure_75 : decode u_Trip_measure.2.2.1 75 = .ok (.iaload, 1) := by decide +kernel
theorem d_Trip_measure_76 : decode u_Trip_measure.2.2.1 76 = .ok (.if_icmp .lt 46, 3) := by decide +kernel
theorem d_Trip_measure_79 : decode u_Trip_measure.2.2.1 79 = .ok (.aload_n 0, 1) := by decide +kernel
theorem d_Trip_measure_80 : decode u_Trip_measure.2.2.1 80 = .ok (.getfield 18, 3) := by decide +kernel
theorem d_Trip_measure_83 : decode u_Trip_measure.2.2.1 83 = .ok (.aload_n 0, 1) := by decide +kernel
theorem d_Trip_measure_84 : decode u_Trip_measure.2.2.1 84 = .ok (.getfield 51, 3) := by decide +kernel
theorem d_Trip_measure_87 : decode u_Trip_measure.2.2.1 87 = .ok (.iload_n 1, 1) := by decide +kernel
theorem d_Trip_measure_88 : decode u_Trip_measure.2.2.1 88 = .ok (.iastore, 1) := by decide +kernel
theorem d_Trip_measure_89 : decode u_Trip_measure.2.2.1 89 = .ok (.aload_n 0, 1) := by decide +kernel
theorem d_Trip_measure_90 : decode u_Trip_measure.2.2.1 90 = .ok (.getfield 22, 3) := by decide +kernel
theorem d_Trip_measure_93 : decode u_Trip_measure.2.2.1 93 = .ok (.aload_n 0, 1) := by decide +kernel
theorem d_Trip_measure_94 : decode u_Trip_measure.2.2.1 94 = .ok (.getfield 51, 3) := by decide +kernel
theorem d_Trip_measure_97 : decode u_Trip_measure.2.2.1 97 = .ok (.aload_n 2, 1) := by decide +kernel
theorem d_Trip_measure_98 : decode u_Trip_measure.2.2.1 98 = .ok (.getfield 67, 3) := by decide +kernel
theorem d_Trip_measure_101 : decode u_Trip_measure.2.2.1 101 = .ok (.aload_n 0, 1) := by decide +kernel
theorem d_Trip_measure_102 : decode u_Trip_measure.2.2.1 102 = .ok (.getfield 28, 3) := by decide +kernel
theorem d_Trip_measure_105 : decode u_Trip_measure.2.2.1 105 = .ok (.getfield 73, 3) := by decide +kernel
theorem d_Trip_measure_108 : decode u_Trip_measure.2.2.1 108 = .ok (.iconst 0, 1) := by decide +kernel
theorem d_Trip_measure_109 : decode u_Trip_measure.2.2.1 109 = .ok (.iaload, 1) := by decide +kernel
theorem d_Trip_measure_110 : decode u_Trip_measure.2.2.1 110 = .ok (.isub, 1) := by decide +kernel
theorem d_Trip_measure_111 : decode u_Trip_measure.2.2.1 111 = .ok (.iastore, 1) := by decide +kernel
theorem d_Trip_measure_112 : decode u_Trip_measure.2.2.1 112 = .ok (.aload_n 0, 1) := by decide +kernel
theorem d_Trip_measure_113 : decode u_Trip_measure.2.2.1 113 = .ok (.dup, 1) := by decide +kernel
theorem d_Trip_measure_114 : decode u_Trip_measure.2.2.1 114 = .ok (.getfield 51, 3) := by decide +kernel
theorem d_Trip_measure_117 : decode u_Trip_measure.2.2.1 117 = .ok (.iconst 1, 1) := by decide +kernel
theorem d_Trip_measure_118 : decode u_Trip_measure.2.2.1 118 = .ok (.iadd, 1) := by decide +kernel
theorem d_Trip_measure_119 : decode u_Trip_measure.2.2.1 119 = .ok (.putfield 51, 3) := by decide +kernel
theorem d_Trip_measure_122 : decode u_Trip_measure.2.2.1 122 = .ok (.aload_n 0, 1) := by decide +kernel
theorem d_Trip_measure_123 : decode u_Trip_measure.2.2.1 123 = .ok (.getfield 25, 3) := by decide +kernel
theorem d_Trip_measure_126 : decode u_Trip_measure.2.2.1 126 = .ok (.aload_n 0, 1) := by decide +kernel
theorem d_Trip_measure_127 : decode u_Trip_measure.2.2.1 127 = .ok (.getfield 51, 3) := by decide +kernel
theorem d_Trip_measure_130 : decode u_Trip_measure.2.2.1 130 = .ok (.iconst 1, 1) := by decide +kernel
theorem d_Trip_measure_131 : decode u_Trip_measure.2.2.1 131 = .ok (.isub, 1) := by decide +kernel
theorem d_Trip_measure_132 : decode u_Trip_measure.2.2.1 132 = .ok (.aload_n 2, 1) := by decide +kernel
theorem d_Trip_measure_133 : decode u_Trip_measure.2.2.1 133 = .ok (.getfield 70, 3) := by decide +kernel
theorem d_Trip_measure_136 : decode u_Trip_measure.2.2.1 136 = .ok (.aload_n 0, 1) := by decide +kernel
theorem d_Trip_measure_137 : decode u_Trip_measure.2.2.1 137 = .ok (.getfield 28, 3) := by decide +kernel
theorem d_Trip_measure_140 : decode u_Trip_measure.2.2.1 140 = .ok (.getfield 73, 3) := by decide +kernel
theorem d_Trip_measure_143 : decode u_Trip_measure.2.2.1 143 = .ok (.iconst 1, 1) := by decide +kernel
theorem d_Trip_measure_144 : decode u_Trip_measure.2.2.1 144 = .ok (.iaload, 1) := by decide +kernel
theorem d_Trip_measure_145 : decode u_Trip_measure.2.2.1 145 = .ok (.iadd, 1) := by decide +kernel
theorem d_Trip_measure_146 : decode u_Trip_measure.2.2.1 146 = .ok (.iastore, 1) := by decide +kernel
theorem d_Trip_measure_147 : decode u_Trip_measure.2.2.1 147 = .ok (.aload_n 0, 1) := by decide +kernel
theorem d_Trip_measure_148 : decode u_Trip_measure.2.2.1 148 = .ok (.getfield 12, 3) := by decide +kernel
theorem d_Trip_measure_151 : decode u_Trip_measure.2.2.1 151 = .ok (.dup, 1) := by decide +kernel
theorem d_Trip_measure_152 : decode u_Trip_measure.2.2.1 152 = .ok (.getfield 54, 3) := by decide +kernel
theorem d_Trip_measure_155 : decode u_Trip_measure.2.2.1 155 = .ok (.aload_n 2, 1) := by decide +kernel
theorem d_Trip_measure_156 : decode u_Trip_measure.2.2.1 156 = .ok (.getfield 70, 3) := by decide +kernel
theorem d_Trip_measure_159 : decode u_Trip_measure.2.2.1 159 = .ok (.aload_n 2, 1) := by decide +kernel
theorem d_Trip_measure_160 : decode u_Trip_measure.2.2.1 160 = .ok (.getfield 67, 3) := by decide +kernel
theorem d_Trip_measure_163 : decode u_Trip_measure.2.2.1 163 = .ok (.isub, 1) := by decide +kernel
theorem d_Trip_measure_164 : decode u_Trip_measure.2.2.1 164 = .ok (.iadd, 1) := by decide +kernel
theorem d_Trip_measure_165 : decode u_Trip_measure.2.2.1 165 = .ok (.putfield 54, 3) := by decide +kernel
theorem d_Trip_measure_168 : decode u_Trip_measure.2.2.1 168 = .ok (.aload_n 0, 1) := by decide +kernel
theorem d_Trip_measure_169 : decode u_Trip_measure.2.2.1 169 = .ok (.getfield 12, 3) := by decide +kernel
theorem d_Trip_measure_172 : decode u_Trip_measure.2.2.1 172 = .ok (.dup, 1) := by decide +kernel
theorem d_Trip_measure_173 : decode u_Trip_measure.2.2.1 173 = .ok (.getfield 57, 3) := by decide +kernel
theorem d_Trip_measure_176 : decode u_Trip_measure.2.2.1 176 = .ok (.iconst 1, 1) := by decide +kernel
theorem d_Trip_measure_177 : decode u_Trip_measure.2.2.1 177 = .ok (.aload_n 2, 1) := by decide +kernel
theorem d_Trip_measure_178 : decode u_Trip_measure.2.2.1 178 = .ok (.getfield 76, 3) := by decide +kernel
theorem d_Trip_measure_181 : decode u_Trip_measure.2.2.1 181 = .ok (.ishl, 1) := by decide +kernel
theorem d_Trip_measure_182 : decode u_Trip_measure.2.2.1 182 = .ok (.ior, 1) := by decide +kernel
theorem d_Trip_measure_183 : decode u_Trip_measure.2.2.1 183 = .ok (.putfield 57, 3) := by decide +kernel
theorem d_Trip_measure_186 : decode u_Trip_measure.2.2.1 186 = .ok (.aload_n 0, 1) := by decide +kernel
theorem d_Trip_measure_187 : decode u_Trip_measure.2.2.1 187 = .ok (.getfield 12, 3) := by decide +kernel
theorem d_Trip_measure_190 : decode u_Trip_measure.2.2.1 190 = .ok (.dup, 1) := by decide +kernel
theorem d_Trip_measure_191 : decode u_Trip_measure.2.2.1 191 = .ok (.getfield 60, 3) := by decide +kernel
theorem d_Trip_measure_194 : decode u_Trip_measure.2.2.1 194 = .ok (.iconst 1, 1) := by decide +kernel
theorem d_Trip_measure_195 : decode u_Trip_measure.2.2.1 195 = .ok (.aload_n 0, 1) := by decide +kernel
theorem d_Trip_measure_196 : decode u_Trip_measure.2.2.1 196 = .ok (.getfield 12, 3) := by decide +kernel
theorem d_Trip_measure_199 : decode u_Trip_measure.2.2.1 199 = .ok (.getfield 32, 3) := by decide +kernel
theorem d_Trip_measure_202 : decode u_Trip_measure.2.2.1 202 = .ok (.iload_n 1, 1) := by decide +kernel
theorem d_Trip_measure_203 : decode u_Trip_measure.2.2.1 203 = .ok (.iaload, 1) := by decide +kernel
theorem d_Trip_measure_204 : decode u_Trip_measure.2.2.1 204 = .ok (.ishl, 1) := by decide +kernel
theorem d_Trip_measure_205 : decode u_Trip_measure.2.2.1 205 = .ok (.ior, 1) := by decide +kernel
theorem d_Trip_measure_206 : decode u_Trip_measure.2.2.1 206 = .ok (.putfield 60, 3) := by decide +kernel
theorem d_Trip_measure_209 : decode u_Trip_measure.2.2.1 209 = .ok (.iinc 1 1, 3) := by decide +kernel
theorem d_Trip_measure_212 : decode u_Trip_measure.2.2.1 212 = .ok (.goto (-181), 3) := by decide +kernel
theorem d_Trip_measure_215 : decode u_Trip_measure.2.2.1 215 = .ok (.aload_n 0, 1) := by decide +kernel
theorem d_Trip_measure_216 : decode u_Trip_measure.2.2.1 216 = .ok (.getfield 51, 3) := by decide +kernel
theorem d_Trip_measure_219 : decode u_Trip_measure.2.2.1 219 = .ok (.ifCond .le 49, 3) := by decide +kernel
theorem d_Trip_measure_222 : decode u_Trip_measure.2.2.1 222 = .ok (.aload_n 0, 1) := by decide +kernel
theorem d_Trip_measure_223 : decode u_Trip_measure.2.2.1 223 = .ok (.getfield 12, 3) := by decide +kernel
theorem d_Trip_measure_226 : decode u_Trip_measure.2.2.1 226 = .ok (.aload_n 0, 1) := by decide +kernel
theorem d_Trip_measure_227 : decode u_Trip_measure.2.2.1 227 = .ok (.iconst 0, 1) := by decide +kernel
theorem d_Trip_measure_228 : decode u_Trip_measure.2.2.1 228 = .ok (.invokevirtual 63, 3) := by decide +kernel
theorem d_Trip_measure_231 : decode u_Trip_measure.2.2.1 231 = .ok (.getfield 79, 3) := by decide +kernel
theorem d_Trip_measure_234 : decode u_Trip_measure.2.2.1 234 = .ok (.putfield 82, 3) := by decide +kernel
theorem d_Trip_measure_237 : decode u_Trip_measure.2.2.1 237 = .ok (.aload_n 0, 1) := by decide +kernel
theorem d_Trip_measure_238 : decode u_Trip_measure.2.2.1 238 = .ok (.getfield 12, 3) := by decide +kernel
theorem d_Trip_measure_241 : decode u_Trip_measure.2.2.1 241 = .ok (.aload_n 0, 1) := by decide +kernel
theorem d_Trip_measure_242 : decode u_Trip_measure.2.2.1 242 = .ok (.getfield 22, 3) := by decide +kernel
theorem d_Trip_measure_245 : decode u_Trip_measure.2.2.1 245 = .ok (.iconst 0, 1) := by decide +kernel
theorem d_Trip_measure_246 : decode u_Trip_measure.2.2.1 246 = .ok (.iaload, 1) := by decide +kernel
theorem d_Trip_measure_247 : decode u_Trip_measure.2.2.1 247 = .ok (.putfield 85, 3) := by decide +kernel
theorem d_Trip_measure_250 : decode u_Trip_measure.2.2.1 250 = .ok (.aload_n 0, 1) := by decide +kernel
theorem d_Trip_measure_251 : decode u_Trip_measure.2.2.1 251 = .ok (.getfield 12, 3) := by decide +kernel
theorem d_Trip_measure_254 : decode u_Trip_measure.2.2.1 254 = .ok (.aload_n 0, 1) := by decide +kernel
theorem d_Trip_measure_255 : decode u_Trip_measure.2.2.1 255 = .ok (.getfield 25, 3) := by decide +kernel
theorem d_Trip_measure_258 : decode u_Trip_measure.2.2.1 258 = .ok (.aload_n 0, 1) := by decide +kernel
theorem d_Trip_measure_259 : decode u_Trip_measure.2.2.1 259 = .ok (.getfield 51, 3) := by decide +kernel
theorem d_Trip_measure_262 : decode u_Trip_measure.2.2.1 262 = .ok (.iconst 1, 1) := by decide +kernel
theorem d_Trip_measure_263 : decode u_Trip_measure.2.2.1 263 = .ok (.isub, 1) := by decide +kernel
theorem d_Trip_measure_264 : decode u_Trip_measure.2.2.1 264 = .ok (.iaload, 1) := by decide +kernel
theorem d_Trip_measure_265 : decode u_Trip_measure.2.2.1 265 = .ok (.putfield 88, 3) := by decide +kernel
theorem d_Trip_measure_268 : decode u_Trip_measure.2.2.1 268 = .ok (.return_, 1) := by decide +kernel
theorem w_Trip_measure : am_code y_Trip_measure u_Trip_measure ∈ am_ws := am_mem (List.mem_of_getElem? (i := 497) (by decide +kernel)) rfl
def a_Trip_measure_0 (rc : Nat → Nat → Int32 → Nat → am_M → Option (Unit × am_M)) (r0 : Nat) (x1 : Int32) (r2 : Nat) (M : am_M) : Option (Unit × am_M) := (q_gtr M r0 5 1).bind (fun t33 => (q_gti M t33 4 1).bind (fun t36 => if t36 ≤ x1 then ((q_gti M r0 5 2).bind (fun t216 => if t216 ≤ 0 then (some ((), M)) else ((q_gtr M r0 5 1).bind (fun t223 => (q_ob M r0 5).bind (fun o228 => (f_Trip_legAt M r0 (0 : Int32)).bind (fun t228 => (q_gti M t228 1 1).bind (fun t231 => (q_pti M t223 4 2 t231).bind (fun M234 => (q_gtr M234 r0 5 1).bind (fun t238 => (q_gtr M234 r0 5 4).bind (fun t242 => (q_ldi M234 t242 (0 : Int32)).bind (fun t246 => (q_pti M234 t238 4 3 t246).bind (fun M247 => (q_gtr M247 r0 5 1).bind (fun t251 => (q_gtr M247 r0 5 5).bind (fun t255 => (q_gti M247 r0 5 2).bind (fun t259 => (q_ldi M247 t255 (t259 - (1 : Int32))).bind (fun t264 => (q_pti M247 t251 4 4 t264).bind (fun M265 => some ((), M265)))))))))))))))))) else ((q_ob M r0 5).bind (fun o44 => (f_Trip_legAt M r0 x1).bind (fun t44 => if x1 = 0 then (rc 1 r0 x1 t44 M) else ((q_gti M t44 1 3).bind (fun t53 => (q_ob M r0 5).bind (fun o60 => (f_Trip_legAt M r0 (x1 - (1 : Int32))).bind (fun t60 => (q_gti M t60 1 4).bind (fun t63 => (q_gtr M r0 5 0).bind (fun t68 => (q_gtr M t68 3 3).bind (fun t71 => (q_ldi M t71 (3 : Int32)).bind (fun t75 => if (t53 - t63) < t75 then (rc 2 r0 x1 t44 M) else (rc 1 r0 x1 t44 M))))))))))))))
def a_Trip_measure_1 (rc : Nat → Nat → Int32 → Nat → am_M → Option (Unit × am_M)) (r0 : Nat) (x1 : Int32) (r2 : Nat) (M : am_M) : Option (Unit × am_M) := (q_gtr M r0 5 3).bind (fun t80 => (q_gti M r0 5 2).bind (fun t84 => (q_sti M t80 t84 x1).bind (fun M88 => (q_gtr M88 r0 5 4).bind (fun t90 => (q_gti M88 r0 5 2).bind (fun t94 => (q_gti M88 r2 1 3).bind (fun t98 => (q_gtr M88 r0 5 0).bind (fun t102 => (q_gtr M88 t102 3 3).bind (fun t105 => (q_ldi M88 t105 (0 : Int32)).bind (fun t109 => (q_sti M88 t90 t94 (t98 - t109)).bind (fun M111 => (q_gti M111 r0 5 2).bind (fun t114 => (q_pti M111 r0 5 2 (t114 + (1 : Int32))).bind (fun M119 => rc 2 r0 x1 r2 M119))))))))))))
def a_Trip_measure_2 (rc : Nat → Nat → Int32 → Nat → am_M → Option (Unit × am_M)) (r0 : Nat) (x1 : Int32) (r2 : Nat) (M : am_M) : Option (Unit × am_M) := (q_gtr M r0 5 5).bind (fun t123 => (q_gti M r0 5 2).bind (fun t127 => (q_gti M r2 1 4).bind (fun t133 => (q_gtr M r0 5 0).bind (fun t137 => (q_gtr M t137 3 3).bind (fun t140 => (q_ldi M t140 (1 : Int32)).bind (fun t144 => (q_sti M t123 (t127 - (1 : Int32)) (t133 + t144)).bind (fun M146 => (q_gtr M146 r0 5 1).bind (fun t148 => (q_gti M146 t148 4 5).bind (fun t152 => (q_gti M146 r2 1 4).bind (fun t156 => (q_gti M146 r2 1 3).bind (fun t160 => (q_pti M146 t148 4 5 (t152 + (t156 - t160))).bind (fun M165 => (q_gtr M165 r0 5 1).bind (fun t169 => (q_gti M165 t169 4 6).bind (fun t173 => (q_gti M165 r2 1 5).bind (fun t178 => (q_pti M165 t169 4 6 (t173 ||| ((1 : Int32) <<< (t178 &&& 31)))).bind (fun M183 => (q_gtr M183 r0 5 1).bind (fun t187 => (q_gti M183 t187 4 7).bind (fun t191 => (q_gtr M183 r0 5 1).bind (fun t196 => (q_gtr M183 t196 4 0).bind (fun t199 => (q_ldi M183 t199 x1).bind (fun t203 => (q_pti M183 t187 4 7 (t191 ||| ((1 : Int32) <<< (t203 &&& 31)))).bind (fun M206 => rc 0 r0 (x1 + (1 : Int32)) 0 M206))))))))))))))))))))))
def g_Trip_measure : Nat → Nat → Nat → Int32 → Nat → am_M → Option (Unit × am_M)
  | 0, _, _, _, _, _ => none
  | F + 1, 0, r0, x1, r2, M => a_Trip_measure_0 (g_Trip_measure F) r0 x1 r2 M
  | F + 1, 1, r0, x1, r2, M => a_Trip_measure_1 (g_Trip_measure F) r0 x1 r2 M
  | F + 1, 2, r0, x1, r2, M => a_Trip_measure_2 (g_Trip_measure F) r0 x1 r2 M
  | _ + 1, _ + 3, _, _, _, _ => none
def e_Trip_measure (rc : Nat → Nat → Int32 → Nat → am_M → Option (Unit × am_M)) (M : am_M) (a0 : Nat) : Option (Unit × am_M) := (q_pti M a0 5 2 (0 : Int32)).bind (fun M2 => (q_gtr M2 a0 5 1).bind (fun t6 => (q_pti M2 t6 4 5 (0 : Int32)).bind (fun M10 => (q_gtr M10 a0 5 1).bind (fun t14 => (q_pti M10 t14 4 6 (0 : Int32)).bind (fun M18 => (q_gtr M18 a0 5 1).bind (fun t22 => (q_pti M18 t22 4 7 (0 : Int32)).bind (fun M26 => rc 0 a0 (0 : Int32) 0 M26)))))))
def f_Trip_measure (M : am_M) (a0 : Nat) : Option (Unit × am_M) := e_Trip_measure (g_Trip_measure 1000000000) M a0
theorem fl_Trip_18 : am_fl "CrewOffice$Trip" 18 5 3 := ⟨by decide, by decide, List.mem_of_getElem? (i := 317) (by decide +kernel)⟩
theorem fl_Trip_22 : am_fl "CrewOffice$Trip" 22 5 4 := ⟨by decide, by decide, List.mem_of_getElem? (i := 318) (by decide +kernel)⟩
theorem fl_Trip_25 : am_fl "CrewOffice$Trip" 25 5 5 := ⟨by decide, by decide, List.mem_of_getElem? (i := 319) (by decide +kernel)⟩
theorem fl_Trip_51 : am_fl "CrewOffice$Trip" 51 5 2 := ⟨by decide, by decide, List.mem_of_getElem? (i := 315) (by decide +kernel)⟩
theorem fl_Trip_54 : am_fl "CrewOffice$Trip" 54 4 5 := ⟨by decide, by decide, List.mem_of_getElem? (i := 284) (by decide +kernel)⟩
theorem fl_Trip_57 : am_fl "CrewOffice$Trip" 57 4 6 := ⟨by decide, by decide, List.mem_of_getElem? (i := 290) (by decide +kernel)⟩
theorem fl_Trip_60 : am_fl "CrewOffice$Trip" 60 4 7 := ⟨by decide, by decide, List.mem_of_getElem? (i := 292) (by decide +kernel)⟩
theorem fl_Trip_67 : am_fl "CrewOffice$Trip" 67 1 3 := ⟨by decide, by decide, List.mem_of_getElem? (i := 142) (by decide +kernel)⟩
theorem fl_Trip_70 : am_fl "CrewOffice$Trip" 70 1 4 := ⟨by decide, by decide, List.mem_of_getElem? (i := 145) (by decide +kernel)⟩
theorem fl_Trip_73 : am_fl "CrewOffice$Trip" 73 3 3 := ⟨by decide, by decide, List.mem_of_getElem? (i := 231) (by decide +kernel)⟩
theorem fl_Trip_76 : am_fl "CrewOffice$Trip" 76 1 5 := ⟨by decide, by decide, List.mem_of_getElem? (i := 147) (by decide +kernel)⟩
theorem fl_Trip_79 : am_fl "CrewOffice$Trip" 79 1 1 := ⟨by decide, by decide, List.mem_of_getElem? (i := 135) (by decide +kernel)⟩
theorem fl_Trip_82 : am_fl "CrewOffice$Trip" 82 4 2 := ⟨by decide, by decide, List.mem_of_getElem? (i := 269) (by decide +kernel)⟩
theorem fl_Trip_85 : am_fl "CrewOffice$Trip" 85 4 3 := ⟨by decide, by decide, List.mem_of_getElem? (i := 274) (by decide +kernel)⟩
theorem fl_Trip_88 : am_fl "CrewOffice$Trip" 88 4 4 := ⟨by decide, by decide, List.mem_of_getElem? (i := 280) (by decide +kernel)⟩
theorem kV_Trip_63 : am_kV "CrewOffice$Trip" 63 5 y_Trip_legAt u_Trip_legAt 1 := ⟨List.mem_of_getElem? (i := 498) (by decide +kernel), ⟨List.mem_of_getElem? (i := 500) (by decide +kernel), List.mem_of_getElem? (i := 3) (by decide +kernel)⟩, List.mem_of_getElem? (i := 60) (by decide +kernel), w_Trip_legAt, ⟨⟨by decide +kernel, by decide +kernel⟩, by decide +kernel⟩⟩
set_option maxHeartbeats 4000000 in
theorem s_Trip_measure_0 {rc : Nat → Nat → Int32 → Nat → am_M → Option (Unit × am_M)} {res : Unit} {M' : am_M} (ih_0 : ∀ (r0 : Nat) (x1 : Int32) (r2 : Nat) (M : am_M), rc 0 r0 x1 r2 M = some (res, M') → AW u_Trip_measure R_Trip_measure 0 0 31 [(0, .ref r0), (1, .int x1)] [] M (fun r M2 => r = .inl none ∧ M2 = M')) (ih_1 : ∀ (r0 : Nat) (x1 : Int32) (r2 : Nat) (M : am_M), rc 1 r0 x1 r2 M = some (res, M') → AW u_Trip_measure R_Trip_measure 0 0 79 [(0, .ref r0), (1, .int x1), (2, .ref r2)] [] M (fun r M2 => r = .inl none ∧ M2 = M')) (ih_2 : ∀ (r0 : Nat) (x1 : Int32) (r2 : Nat) (M : am_M), rc 2 r0 x1 r2 M = some (res, M') → AW u_Trip_measure R_Trip_measure 0 0 122 [(0, .ref r0), (1, .int x1), (2, .ref r2)] [] M (fun r M2 => r = .inl none ∧ M2 = M')) : ∀ (r0 : Nat) (x1 : Int32) (r2 : Nat) (M : am_M), a_Trip_measure_0 rc r0 x1 r2 M = some (res, M') → AW u_Trip_measure R_Trip_measure 0 0 31 [(0, .ref r0), (1, .int x1)] [] M (fun r M2 => r = .inl none ∧ M2 = M') := by
  intro r0 x1 r2 M h
  unfold a_Trip_measure_0 at h
  refine aw_iload_n d_Trip_measure_31 rfl rfl ?_
  refine aw_aload_n d_Trip_measure_32 rfl rfl ?_
  obtain ⟨t33, e_t33, h⟩ := q_bind h
  refine aw_gtr d_Trip_measure_33 fl_Trip_12 (Or.inl ⟨_, rfl⟩) e_t33 ?_
  obtain ⟨t36, e_t36, h⟩ := q_bind h
  refine aw_gti d_Trip_measure_36 fl_Trip_35 (Or.inl rfl) e_t36 ?_
  refine aw_icmp_ge (tgt := 215) d_Trip_measure_39 (by decide) (fun hc => ?_) (fun hc => ?_)
  · rw [if_pos hc] at h
    refine aw_aload_n d_Trip_measure_215 rfl rfl ?_
    obtain ⟨t216, e_t216, h⟩ := q_bind h
    refine aw_gti d_Trip_measure_216 fl_Trip_51 (Or.inl rfl) e_t216 ?_
    refine aw_if_le (tgt := 268) d_Trip_measure_219 (by decide) (fun hc => ?_) (fun hc => ?_)
    · rw [if_pos hc] at h
      cases h
      exact aw_vreturn d_Trip_measure_268 rfl (Nat.le_of_ble_eq_true rfl) (Nat.le_of_ble_eq_true rfl) ⟨rfl, rfl⟩
    · rw [if_neg hc] at h
      refine aw_aload_n d_Trip_measure_222 rfl rfl ?_
      obtain ⟨t223, e_t223, h⟩ := q_bind h
      refine aw_gtr d_Trip_measure_223 fl_Trip_12 (Or.inl ⟨_, rfl⟩) e_t223 ?_
      refine aw_aload_n d_Trip_measure_226 rfl rfl ?_
      refine aw_iconst (v := 0) d_Trip_measure_227 (by decide) ?_
      obtain ⟨o228, e_o228, h⟩ := q_bind h
      obtain ⟨t228, e_t228, h⟩ := q_bind h
      refine aw_cV (v := (some (.ref t228))) (As := [.int (0 : Int32)]) (rest := [.ref t223]) (st' := [.ref t228, .ref t223]) d_Trip_measure_228 kV_Trip_63 (q_ob_spec e_o228).1 (q_ob_spec e_o228).2 ⟨Nat.le_of_ble_eq_true rfl, Nat.le_of_ble_eq_true rfl, Nat.le_of_ble_eq_true rfl, Nat.le_of_ble_eq_true rfl⟩ rfl rfl (Nat.le_of_ble_eq_true rfl) rfl (mt_Trip_legAt e_t228) ?_
      obtain ⟨t231, e_t231, h⟩ := q_bind h
      refine aw_gti d_Trip_measure_231 fl_Trip_79 (Or.inl rfl) e_t231 ?_
      obtain ⟨M234, e_M234, h⟩ := q_bind h
      refine aw_pti d_Trip_measure_234 fl_Trip_82 rfl rfl e_M234 ?_
      refine aw_aload_n d_Trip_measure_237 rfl rfl ?_
      obtain ⟨t238, e_t238, h⟩ := q_bind h
      refine aw_gtr d_Trip_measure_238 fl_Trip_12 (Or.inl ⟨_, rfl⟩) e_t238 ?_
      refine aw_aload_n d_Trip_measure_241 rfl rfl ?_
      obtain ⟨t242, e_t242, h⟩ := q_bind h
      refine aw_gtr d_Trip_measure_242 fl_Trip_22 (Or.inr ⟨_, rfl⟩) e_t242 ?_
      refine aw_iconst (v := 0) d_Trip_measure_245 (by decide) ?_
      obtain ⟨t246, e_t246, h⟩ := q_bind h
      refine aw_ldi d_Trip_measure_246 e_t246 ?_
      obtain ⟨M247, e_M247, h⟩ := q_bind h
      refine aw_pti d_Trip_measure_247 fl_Trip_85 rfl rfl e_M247 ?_
      refine aw_aload_n d_Trip_measure_250 rfl rfl ?_
      obtain ⟨t251, e_t251, h⟩ := q_bind h
      refine aw_gtr d_Trip_measure_251 fl_Trip_12 (Or.inl ⟨_, rfl⟩) e_t251 ?_
      refine aw_aload_n d_Trip_measure_254 rfl rfl ?_
      obtain ⟨t255, e_t255, h⟩ := q_bind h
      refine aw_gtr d_Trip_measure_255 fl_Trip_25 (Or.inr ⟨_, rfl⟩) e_t255 ?_
      refine aw_aload_n d_Trip_measure_258 rfl rfl ?_
      obtain ⟨t259, e_t259, h⟩ := q_bind h
      refine aw_gti d_Trip_measure_259 fl_Trip_51 (Or.inl rfl) e_t259 ?_
      refine aw_iconst (v := 1) d_Trip_measure_262 (by decide) ?_
      refine aw_isub d_Trip_measure_263 ?_
      obtain ⟨t264, e_t264, h⟩ := q_bind h
      refine aw_ldi d_Trip_measure_264 e_t264 ?_
      obtain ⟨M265, e_M265, h⟩ := q_bind h
      refine aw_pti d_Trip_measure_265 fl_Trip_88 rfl rfl e_M265 ?_
      cases h
      exact aw_vreturn d_Trip_measure_268 rfl (Nat.le_of_ble_eq_true rfl) (Nat.le_of_ble_eq_true rfl) ⟨rfl, rfl⟩
  · rw [if_neg hc] at h
    refine aw_aload_n d_Trip_measure_42 rfl rfl ?_
    refine aw_iload_n d_Trip_measure_43 rfl rfl ?_
    obtain ⟨o44, e_o44, h⟩ := q_bind h
    obtain ⟨t44, e_t44, h⟩ := q_bind h
    refine aw_cV (v := (some (.ref t44))) (As := [.int x1]) (rest := []) (st' := [.ref t44]) d_Trip_measure_44 kV_Trip_63 (q_ob_spec e_o44).1 (q_ob_spec e_o44).2 ⟨Nat.le_of_ble_eq_true rfl, Nat.le_of_ble_eq_true rfl, Nat.le_of_ble_eq_true rfl, Nat.le_of_ble_eq_true rfl⟩ rfl rfl (Nat.le_of_ble_eq_true rfl) rfl (mt_Trip_legAt e_t44) ?_
    refine aw_astore_n (ls' := [(2, .ref _), (0, .ref _), (1, .int _)]) d_Trip_measure_47 rfl (Nat.le_of_ble_eq_true rfl) rfl ?_
    refine aw_iload_n d_Trip_measure_48 rfl rfl ?_
    refine aw_if_eq (tgt := 79) d_Trip_measure_49 (by decide) (fun hc => ?_) (fun hc => ?_)
    · rw [if_pos hc] at h
      exact aw_pick [1, 2, 0] rfl (ih_1 _ _ _ _ h)
    · rw [if_neg hc] at h
      refine aw_aload_n d_Trip_measure_52 rfl rfl ?_
      obtain ⟨t53, e_t53, h⟩ := q_bind h
      refine aw_gti d_Trip_measure_53 fl_Trip_67 (Or.inl rfl) e_t53 ?_
      refine aw_aload_n d_Trip_measure_56 rfl rfl ?_
      refine aw_iload_n d_Trip_measure_57 rfl rfl ?_
      refine aw_iconst (v := 1) d_Trip_measure_58 (by decide) ?_
      refine aw_isub d_Trip_measure_59 ?_
      obtain ⟨o60, e_o60, h⟩ := q_bind h
      obtain ⟨t60, e_t60, h⟩ := q_bind h
      refine aw_cV (v := (some (.ref t60))) (As := [.int (x1 - (1 : Int32))]) (rest := [.int t53]) (st' := [.ref t60, .int t53]) d_Trip_measure_60 kV_Trip_63 (q_ob_spec e_o60).1 (q_ob_spec e_o60).2 ⟨Nat.le_of_ble_eq_true rfl, Nat.le_of_ble_eq_true rfl, Nat.le_of_ble_eq_true rfl, Nat.le_of_ble_eq_true rfl⟩ rfl rfl (Nat.le_of_ble_eq_true rfl) rfl (mt_Trip_legAt e_t60) ?_
      obtain ⟨t63, e_t63, h⟩ := q_bind h
      refine aw_gti d_Trip_measure_63 fl_Trip_70 (Or.inl rfl) e_t63 ?_
      refine aw_isub d_Trip_measure_66 ?_
      refine aw_aload_n d_Trip_measure_67 rfl rfl ?_
      obtain ⟨t68, e_t68, h⟩ := q_bind h
      refine aw_gtr d_Trip_measure_68 fl_Trip_28 (Or.inl ⟨_, rfl⟩) e_t68 ?_
      obtain ⟨t71, e_t71, h⟩ := q_bind h
      refine aw_gtr d_Trip_measure_71 fl_Trip_73 (Or.inr ⟨_, rfl⟩) e_t71 ?_
      refine aw_iconst (v := 3) d_Trip_measure_74 (by decide) ?_
      obtain ⟨t75, e_t75, h⟩ := q_bind h
      refine aw_ldi d_Trip_measure_75 e_t75 ?_
      refine aw_icmp_lt (tgt := 122) d_Trip_measure_76 (by decide) (fun hc => ?_) (fun hc => ?_)
      · rw [if_pos hc] at h
        exact aw_pick [1, 2, 0] rfl (ih_2 _ _ _ _ h)
      · rw [if_neg hc] at h
        exact aw_pick [1, 2, 0] rfl (ih_1 _ _ _ _ h)
set_option maxHeartbeats 4000000 in
theorem s_Trip_measure_1 {rc : Nat → Nat → Int32 → Nat → am_M → Option (Unit × am_M)} {res : Unit} {M' : am_M} (ih_0 : ∀ (r0 : Nat) (x1 : Int32) (r2 : Nat) (M : am_M), rc 0 r0 x1 r2 M = some (res, M') → AW u_Trip_measure R_Trip_measure 0 0 31 [(0, .ref r0), (1, .int x1)] [] M (fun r M2 => r = .inl none ∧ M2 = M')) (ih_1 : ∀ (r0 : Nat) (x1 : Int32) (r2 : Nat) (M : am_M), rc 1 r0 x1 r2 M = some (res, M') → AW u_Trip_measure R_Trip_measure 0 0 79 [(0, .ref r0), (1, .int x1), (2, .ref r2)] [] M (fun r M2 => r = .inl none ∧ M2 = M')) (ih_2 : ∀ (r0 : Nat) (x1 : Int32) (r2 : Nat) (M : am_M), rc 2 r0 x1 r2 M = some (res, M') → AW u_Trip_measure R_Trip_measure 0 0 122 [(0, .ref r0), (1, .int x1), (2, .ref r2)] [] M (fun r M2 => r = .inl none ∧ M2 = M')) : ∀ (r0 : Nat) (x1 : Int32) (r2 : Nat) (M : am_M), a_Trip_measure_1 rc r0 x1 r2 M = some (res, M') → AW u_Trip_measure R_Trip_measure 0 0 79 [(0, .ref r0), (1, .int x1), (2, .ref r2)] [] M (fun r M2 => r = .inl none ∧ M2 = M') := by
  intro r0 x1 r2 M h
  unfold a_Trip_measure_1 at h
  refine aw_aload_n d_Trip_measure_79 rfl rfl ?_
  obtain ⟨t80, e_t80, h⟩ := q_bind h
  refine aw_gtr d_Trip_measure_80 fl_Trip_18 (Or.inr ⟨_, rfl⟩) e_t80 ?_
  refine aw_aload_n d_Trip_measure_83 rfl rfl ?_
  obtain ⟨t84, e_t84, h⟩ := q_bind h
  refine aw_gti d_Trip_measure_84 fl_Trip_51 (Or.inl rfl) e_t84 ?_
  refine aw_iload_n d_Trip_measure_87 rfl rfl ?_
  obtain ⟨M88, e_M88, h⟩ := q_bind h
  refine aw_sti d_Trip_measure_88 e_M88 ?_
  refine aw_aload_n d_Trip_measure_89 rfl rfl ?_
  obtain ⟨t90, e_t90, h⟩ := q_bind h
  refine aw_gtr d_Trip_measure_90 fl_Trip_22 (Or.inr ⟨_, rfl⟩) e_t90 ?_
  refine aw_aload_n d_Trip_measure_93 rfl rfl ?_
  obtain ⟨t94, e_t94, h⟩ := q_bind h
  refine aw_gti d_Trip_measure_94 fl_Trip_51 (Or.inl rfl) e_t94 ?_
  refine aw_aload_n d_Trip_measure_97 rfl rfl ?_
  obtain ⟨t98, e_t98, h⟩ := q_bind h
  refine aw_gti d_Trip_measure_98 fl_Trip_67 (Or.inl rfl) e_t98 ?_
  refine aw_aload_n d_Trip_measure_101 rfl rfl ?_
  obtain ⟨t102, e_t102, h⟩ := q_bind h
  refine aw_gtr d_Trip_measure_102 fl_Trip_28 (Or.inl ⟨_, rfl⟩) e_t102 ?_
  obtain ⟨t105, e_t105, h⟩ := q_bind h
  refine aw_gtr d_Trip_measure_105 fl_Trip_73 (Or.inr ⟨_, rfl⟩) e_t105 ?_
  refine aw_iconst (v := 0) d_Trip_measure_108 (by decide) ?_
  obtain ⟨t109, e_t109, h⟩ := q_bind h
  refine aw_ldi d_Trip_measure_109 e_t109 ?_
  refine aw_isub d_Trip_measure_110 ?_
  obtain ⟨M111, e_M111, h⟩ := q_bind h
  refine aw_sti d_Trip_measure_111 e_M111 ?_
  refine aw_aload_n d_Trip_measure_112 rfl rfl ?_
  refine aw_dup d_Trip_measure_113 rfl ?_
  obtain ⟨t114, e_t114, h⟩ := q_bind h
  refine aw_gti d_Trip_measure_114 fl_Trip_51 (Or.inl rfl) e_t114 ?_
  refine aw_iconst (v := 1) d_Trip_measure_117 (by decide) ?_
  refine aw_iadd d_Trip_measure_118 ?_
  obtain ⟨M119, e_M119, h⟩ := q_bind h
  refine aw_pti d_Trip_measure_119 fl_Trip_51 rfl rfl e_M119 ?_
  exact aw_pick [0, 1, 2] rfl (ih_2 _ _ _ _ h)
set_option maxHeartbeats 4000000 in
theorem s_Trip_measure_2 {rc : Nat → Nat → Int32 → Nat → am_M → Option (Unit × am_M)} {res : Unit} {M' : am_M} (ih_0 : ∀ (r0 : Nat) (x1 : Int32) (r2 : Nat) (M : am_M), rc 0 r0 x1 r2 M = some (res, M') → AW u_Trip_measure R_Trip_measure 0 0 31 [(0, .ref r0), (1, .int x1)] [] M (fun r M2 => r = .inl none ∧ M2 = M')) (ih_1 : ∀ (r0 : Nat) (x1 : Int32) (r2 : Nat) (M : am_M), rc 1 r0 x1 r2 M = some (res, M') → AW u_Trip_measure R_Trip_measure 0 0 79 [(0, .ref r0), (1, .int x1), (2, .ref r2)] [] M (fun r M2 => r = .inl none ∧ M2 = M')) (ih_2 : ∀ (r0 : Nat) (x1 : Int32) (r2 : Nat) (M : am_M), rc 2 r0 x1 r2 M = some (res, M') → AW u_Trip_measure R_Trip_measure 0 0 122 [(0, .ref r0), (1, .int x1), (2, .ref r2)] [] M (fun r M2 => r = .inl none ∧ M2 = M')) : ∀ (r0 : Nat) (x1 : Int32) (r2 : Nat) (M : am_M), a_Trip_measure_2 rc r0 x1 r2 M = some (res, M') → AW u_Trip_measure R_Trip_measure 0 0 122 [(0, .ref r0), (1, .int x1), (2, .ref r2)] [] M (fun r M2 => r = .inl none ∧ M2 = M') := by
  intro r0 x1 r2 M h
  unfold a_Trip_measure_2 at h
  refine aw_aload_n d_Trip_measure_122 rfl rfl ?_
  obtain ⟨t123, e_t123, h⟩ := q_bind h
  refine aw_gtr d_Trip_measure_123 fl_Trip_25 (Or.inr ⟨_, rfl⟩) e_t123 ?_
  refine aw_aload_n d_Trip_measure_126 rfl rfl ?_
  obtain ⟨t127, e_t127, h⟩ := q_bind h
  refine aw_gti d_Trip_measure_127 fl_Trip_51 (Or.inl rfl) e_t127 ?_
  refine aw_iconst (v := 1) d_Trip_measure_130 (by decide) ?_
  refine aw_isub d_Trip_measure_131 ?_
  refine aw_aload_n d_Trip_measure_132 rfl rfl ?_
  obtain ⟨t133, e_t133, h⟩ := q_bind h
  refine aw_gti d_Trip_measure_133 fl_Trip_70 (Or.inl rfl) e_t133 ?_
  refine aw_aload_n d_Trip_measure_136 rfl rfl ?_
  obtain ⟨t137, e_t137, h⟩ := q_bind h
  refine aw_gtr d_Trip_measure_137 fl_Trip_28 (Or.inl ⟨_, rfl⟩) e_t137 ?_
  obtain ⟨t140, e_t140, h⟩ := q_bind h
  refine aw_gtr d_Trip_measure_140 fl_Trip_73 (Or.inr ⟨_, rfl⟩) e_t140 ?_
  refine aw_iconst (v := 1) d_Trip_measure_143 (by decide) ?_
  obtain ⟨t144, e_t144, h⟩ := q_bind h
  refine aw_ldi d_Trip_measure_144 e_t144 ?_
  refine aw_iadd d_Trip_measure_145 ?_
  obtain ⟨M146, e_M146, h⟩ := q_bind h
  refine aw_sti d_Trip_measure_146 e_M146 ?_
  refine aw_aload_n d_Trip_measure_147 rfl rfl ?_
  obtain ⟨t148, e_t148, h⟩ := q_bind h
  refine aw_gtr d_Trip_measure_148 fl_Trip_12 (Or.inl ⟨_, rfl⟩) e_t148 ?_
  refine aw_dup d_Trip_measure_151 rfl ?_
  obtain ⟨t152, e_t152, h⟩ := q_bind h
  refine aw_gti d_Trip_measure_152 fl_Trip_54 (Or.inl rfl) e_t152 ?_
  refine aw_aload_n d_Trip_measure_155 rfl rfl ?_
  obtain ⟨t156, e_t156, h⟩ := q_bind h
  refine aw_gti d_Trip_measure_156 fl_Trip_70 (Or.inl rfl) e_t156 ?_
  refine aw_aload_n d_Trip_measure_159 rfl rfl ?_
  obtain ⟨t160, e_t160, h⟩ := q_bind h
  refine aw_gti d_Trip_measure_160 fl_Trip_67 (Or.inl rfl) e_t160 ?_
  refine aw_isub d_Trip_measure_163 ?_
  refine aw_iadd d_Trip_measure_164 ?_
  obtain ⟨M165, e_M165, h⟩ := q_bind h
  refine aw_pti d_Trip_measure_165 fl_Trip_54 rfl rfl e_M165 ?_
  refine aw_aload_n d_Trip_measure_168 rfl rfl ?_
  obtain ⟨t169, e_t169, h⟩ := q_bind h
  refine aw_gtr d_Trip_measure_169 fl_Trip_12 (Or.inl ⟨_, rfl⟩) e_t169 ?_
  refine aw_dup d_Trip_measure_172 rfl ?_
  obtain ⟨t173, e_t173, h⟩ := q_bind h
  refine aw_gti d_Trip_measure_173 fl_Trip_57 (Or.inl rfl) e_t173 ?_
  refine aw_iconst (v := 1) d_Trip_measure_176 (by decide) ?_
  refine aw_aload_n d_Trip_measure_177 rfl rfl ?_
  obtain ⟨t178, e_t178, h⟩ := q_bind h
  refine aw_gti d_Trip_measure_178 fl_Trip_76 (Or.inl rfl) e_t178 ?_
  refine aw_ishl d_Trip_measure_181 ?_
  refine aw_ior d_Trip_measure_182 ?_
  obtain ⟨M183, e_M183, h⟩ := q_bind h
  refine aw_pti d_Trip_measure_183 fl_Trip_57 rfl rfl e_M183 ?_
  refine aw_aload_n d_Trip_measure_186 rfl rfl ?_
  obtain ⟨t187, e_t187, h⟩ := q_bind h
  refine aw_gtr d_Trip_measure_187 fl_Trip_12 (Or.inl ⟨_, rfl⟩) e_t187 ?_
  refine aw_dup d_Trip_measure_190 rfl ?_
  obtain ⟨t191, e_t191, h⟩ := q_bind h
  refine aw_gti d_Trip_measure_191 fl_Trip_60 (Or.inl rfl) e_t191 ?_
  refine aw_iconst (v := 1) d_Trip_measure_194 (by decide) ?_
  refine aw_aload_n d_Trip_measure_195 rfl rfl ?_
  obtain ⟨t196, e_t196, h⟩ := q_bind h
  refine aw_gtr d_Trip_measure_196 fl_Trip_12 (Or.inl ⟨_, rfl⟩) e_t196 ?_
  obtain ⟨t199, e_t199, h⟩ := q_bind h
  refine aw_gtr d_Trip_measure_199 fl_Trip_32 (Or.inr ⟨_, rfl⟩) e_t199 ?_
  refine aw_iload_n d_Trip_measure_202 rfl rfl ?_
  obtain ⟨t203, e_t203, h⟩ := q_bind h
  refine aw_ldi d_Trip_measure_203 e_t203 ?_
  refine aw_ishl d_Trip_measure_204 ?_
  refine aw_ior d_Trip_measure_205 ?_
  obtain ⟨M206, e_M206, h⟩ := q_bind h
  refine aw_pti d_Trip_measure_206 fl_Trip_60 rfl rfl e_M206 ?_
  refine aw_iinc (v := (x1 + (1 : Int32))) (ls' := [(1, .int _), (0, .ref _), (2, .ref _)]) d_Trip_measure_209 rfl rfl (Nat.le_of_ble_eq_true rfl) rfl ?_
  refine aw_goto (tgt := 31) d_Trip_measure_212 (by decide) ?_
  exact aw_pick [1, 0] rfl (ih_0 _ _ _ _ h)
theorem l_Trip_measure {res : Unit} {M' : am_M} : ∀ F : Nat, (∀ (r0 : Nat) (x1 : Int32) (r2 : Nat) (M : am_M), g_Trip_measure F 0 r0 x1 r2 M = some (res, M') → AW u_Trip_measure R_Trip_measure 0 0 31 [(0, .ref r0), (1, .int x1)] [] M (fun r M2 => r = .inl none ∧ M2 = M')) ∧ (∀ (r0 : Nat) (x1 : Int32) (r2 : Nat) (M : am_M), g_Trip_measure F 1 r0 x1 r2 M = some (res, M') → AW u_Trip_measure R_Trip_measure 0 0 79 [(0, .ref r0), (1, .int x1), (2, .ref r2)] [] M (fun r M2 => r = .inl none ∧ M2 = M')) ∧ (∀ (r0 : Nat) (x1 : Int32) (r2 : Nat) (M : am_M), g_Trip_measure F 2 r0 x1 r2 M = some (res, M') → AW u_Trip_measure R_Trip_measure 0 0 122 [(0, .ref r0), (1, .int x1), (2, .ref r2)] [] M (fun r M2 => r = .inl none ∧ M2 = M')) := by
  intro F
  induction F with
  | zero => exact ⟨fun _ _ _ _  h => (by cases h), fun _ _ _ _  h => (by cases h), fun _ _ _ _  h => (by cases h)⟩
  | succ F ih =>
    obtain ⟨ih0, ih1, ih2⟩ := ih
    exact ⟨s_Trip_measure_0 ih0 ih1 ih2, s_Trip_measure_1 ih0 ih1 ih2, s_Trip_measure_2 ih0 ih1 ih2⟩
set_option maxHeartbeats 4000000 in
theorem mt_Trip_measure {M : am_M} {a0 : Nat} {res : Unit} {M' : am_M} (h : f_Trip_measure M a0 = some (res, M')) : AMet y_Trip_measure u_Trip_measure R_Trip_measure [.ref a0] M (fun r M2 => r = .inl none ∧ M2 = M') := by
  refine am_met (by decide +kernel) w_Trip_measure rfl rfl (Nat.le_of_ble_eq_true rfl) ?_
  show AW u_Trip_measure R_Trip_measure 0 0 0 [(0, .ref a0)] [] M (fun r M2 => r = .inl none ∧ M2 = M')
  have ih_0 := (l_Trip_measure (res := res) (M' := M') 1000000000).1
  have ih_1 := (l_Trip_measure (res := res) (M' := M') 1000000000).2.1
  have ih_2 := (l_Trip_measure (res := res) (M' := M') 1000000000).2.2
  unfold f_Trip_measure at h
  unfold e_Trip_measure at h
  generalize g_Trip_measure 1000000000 = rc at h ih_0 ih_1 ih_2
  refine aw_aload_n d_Trip_measure_0 rfl rfl ?_
  refine aw_iconst (v := 0) d_Trip_measure_1 (by decide) ?_
  obtain ⟨M2, e_M2, h⟩ := q_bind h
  refine aw_pti d_Trip_measure_2 fl_Trip_51 rfl rfl e_M2 ?_
  refine aw_aload_n d_Trip_measure_5 rfl rfl ?_
  obtain ⟨t6, e_t6, h⟩ := q_bind h
  refine aw_gtr d_Trip_measure_6 fl_Trip_12 (Or.inl ⟨_, rfl⟩) e_t6 ?_
  refine aw_iconst (v := 0) d_Trip_measure_9 (by decide) ?_
  obtain ⟨M10, e_M10, h⟩ := q_bind h
  refine aw_pti d_Trip_measure_10 fl_Trip_54 rfl rfl e_M10 ?_
  refine aw_aload_n d_Trip_measure_13 rfl rfl ?_
  obtain ⟨t14, e_t14, h⟩ := q_bind h
  refine aw_gtr d_Trip_measure_14 fl_Trip_12 (Or.inl ⟨_, rfl⟩) e_t14 ?_
  refine aw_iconst (v := 0) d_Trip_measure_17 (by decide) ?_
  obtain ⟨M18, e_M18, h⟩ := q_bind h
  refine aw_pti d_Trip_measure_18 fl_Trip_57 rfl rfl e_M18 ?_
  refine aw_aload_n d_Trip_measure_21 rfl rfl ?_
  obtain ⟨t22, e_t22, h⟩ := q_bind h
  refine aw_gtr d_Trip_measure_22 fl_Trip_12 (Or.inl ⟨_, rfl⟩) e_t22 ?_
  refine aw_iconst (v := 0) d_Trip_measure_25 (by decide) ?_
  obtain ⟨M26, e_M26, h⟩ := q_bind h
  refine aw_pti d_Trip_measure_26 fl_Trip_60 rfl rfl e_M26 ?_
  refine aw_iconst (v := 0) d_Trip_measure_29 (by decide) ?_
  refine aw_istore_n (ls' := [(1, .int _), (0, .ref _)]) d_Trip_measure_30 rfl (Nat.le_of_ble_eq_true rfl) rfl ?_
  exact aw_pick [1, 0] rfl (ih_0 _ _ _ _ h)
def y_Trip_legsOf : MethodName := ⟨"CrewOffice$Trip", "legsOf", "(I)I"⟩
def u_Trip_legsOf : am_U := ("CrewOffice$Trip", "legsOf", prog_9_method_6_code, 3, (some .int), [])
def R_Trip_legsOf : Room := { frames := 0, cells := 0, slots := 0, locals := 0 }
theorem d_Trip_legsOf_0 : decode u_Trip_legsOf.2.2.1 0 = .ok (.iload_n 1, 1) := by decide +kernel
theorem d_Trip_legsOf_1 : decode u_Trip_legsOf.2.2.1 1 = .ok (.iconst 1, 1) := by decide +kernel
theorem d_Trip_legsOf_2 : decode u_Trip_legsOf.2.2.1 2 = .ok (.iadd, 1) := by decide +kernel
theorem d_Trip_legsOf_3 : decode u_Trip_legsOf.2.2.1 3 = .ok (.aload_n 0, 1) := by decide +kernel
theorem d_Trip_legsOf_4 : decode u_Trip_legsOf.2.2.1 4 = .ok (.getfield 51, 3) := by decide +kernel
theorem d_Trip_legsOf_7 : decode u_Trip_legsOf.2.2.1 7 = .ok (.if_icmp .ge 14, 3) := by decide +kernel
theorem d_Trip_legsOf_10 : decode u_Trip_legsOf.2.2.1 10 = .ok (.aload_n 0, 1) := by decide +kernel
theorem d_Trip_legsOf_11 : decode u_Trip_legsOf.2.2.1 11 = .ok (.getfield 18, 3) := by decide +kernel
theorem d_Trip_legsOf_14 : decode u_Trip_legsOf.2.2.1 14 = .ok (.iload_n 1, 1) := by decide +kernel
theorem d_Trip_legsOf_15 : decode u_Trip_legsOf.2.2.1 15 = .ok (.iconst 1, 1) := by decide +kernel
theorem d_Trip_legsOf_16 : decode u_Trip_legsOf.2.2.1 16 = .ok (.iadd, 1) := by decide +kernel
theorem d_Trip_legsOf_17 : decode u_Trip_legsOf.2.2.1 17 = .ok (.iaload, 1) := by decide +kernel
theorem d_Trip_legsOf_18 : decode u_Trip_legsOf.2.2.1 18 = .ok (.goto 10, 3) := by decide +kernel
theorem d_Trip_legsOf_21 : decode u_Trip_legsOf.2.2.1 21 = .ok (.aload_n 0, 1) := by decide +kernel
theorem d_Trip_legsOf_22 : decode u_Trip_legsOf.2.2.1 22 = .ok (.getfield 12, 3) := by decide +kernel
theorem d_Trip_legsOf_25 : decode u_Trip_legsOf.2.2.1 25 = .ok (.getfield 35, 3) := by decide +kernel
theorem d_Trip_legsOf_28 : decode u_Trip_legsOf.2.2.1 28 = .ok (.istore_n 2, 1) := by decide +kernel
theorem d_Trip_legsOf_29 : decode u_Trip_legsOf.2.2.1 29 = .ok (.iload_n 2, 1) := by decide +kernel
theorem d_Trip_legsOf_30 : decode u_Trip_legsOf.2.2.1 30 = .ok (.aload_n 0, 1) := by decide +kernel
theorem d_Trip_legsOf_31 : decode u_Trip_legsOf.2.2.1 31 = .ok (.getfield 18, 3) := by decide +kernel
theorem d_Trip_legsOf_34 : decode u_Trip_legsOf.2.2.1 34 = .ok (.iload_n 1, 1) := by decide +kernel
theorem d_Trip_legsOf_35 : decode u_Trip_legsOf.2.2.1 35 = .ok (.iaload, 1) := by decide +kernel
theorem d_Trip_legsOf_36 : decode u_Trip_legsOf.2.2.1 36 = .ok (.isub, 1) := by decide +kernel
theorem d_Trip_legsOf_37 : decode u_Trip_legsOf.2.2.1 37 = .ok (.ireturn, 1) := by decide +kernel
theorem w_Trip_legsOf : am_code y_Trip_legsOf u_Trip_legsOf ∈ am_ws := am_mem (List.mem_of_getElem? (i := 519) (by decide +kernel)) rfl
def a_Trip_legsOf_0 (rc : Nat → Nat → Int32 → Int32 → am_M → Option (Int32)) (r0 : Nat) (x1 : Int32) (s0 : Int32) (M : am_M) : Option (Int32) := (q_gtr M r0 5 3).bind (fun t31 => (q_ldi M t31 x1).bind (fun t35 => some (s0 - t35)))
def g_Trip_legsOf : Nat → Nat → Nat → Int32 → Int32 → am_M → Option (Int32)
  | 0, _, _, _, _, _ => none
  | F + 1, 0, r0, x1, s0, M => a_Trip_legsOf_0 (g_Trip_legsOf F) r0 x1 s0 M
  | _ + 1, _ + 1, _, _, _, _ => none
def e_Trip_legsOf (rc : Nat → Nat → Int32 → Int32 → am_M → Option (Int32)) (M : am_M) (a0 : Nat) (a1 : Int32) : Option (Int32) := (q_gti M a0 5 2).bind (fun t4 => if t4 ≤ (a1 + (1 : Int32)) then ((q_gtr M a0 5 1).bind (fun t22 => (q_gti M t22 4 1).bind (fun t25 => rc 0 a0 a1 t25 M))) else ((q_gtr M a0 5 3).bind (fun t11 => (q_ldi M t11 (a1 + (1 : Int32))).bind (fun t17 => rc 0 a0 a1 t17 M))))
def f_Trip_legsOf (M : am_M) (a0 : Nat) (a1 : Int32) : Option (Int32) := e_Trip_legsOf (g_Trip_legsOf 1000000000) M a0 a1
set_option maxHeartbeats 4000000 in
theorem s_Trip_legsOf_0 {rc : Nat → Nat → Int32 → Int32 → am_M → Option (Int32)} {res : Int32} (ih_0 : ∀ (r0 : Nat) (x1 : Int32) (s0 : Int32) (M : am_M), rc 0 r0 x1 s0 M = some res → AW u_Trip_legsOf R_Trip_legsOf 0 0 28 [(0, .ref r0), (1, .int x1)] [.int s0] M (fun r M2 => r = .inl (some (.int res)) ∧ M2 = M)) : ∀ (r0 : Nat) (x1 : Int32) (s0 : Int32) (M : am_M), a_Trip_legsOf_0 rc r0 x1 s0 M = some res → AW u_Trip_legsOf R_Trip_legsOf 0 0 28 [(0, .ref r0), (1, .int x1)] [.int s0] M (fun r M2 => r = .inl (some (.int res)) ∧ M2 = M) := by
  intro r0 x1 s0 M h
  unfold a_Trip_legsOf_0 at h
  refine aw_istore_n (ls' := [(2, .int _), (0, .ref _), (1, .int _)]) d_Trip_legsOf_28 rfl (Nat.le_of_ble_eq_true rfl) rfl ?_
  refine aw_iload_n d_Trip_legsOf_29 rfl rfl ?_
  refine aw_aload_n d_Trip_legsOf_30 rfl rfl ?_
  obtain ⟨t31, e_t31, h⟩ := q_bind h
  refine aw_gtr d_Trip_legsOf_31 fl_Trip_18 (Or.inr ⟨_, rfl⟩) e_t31 ?_
  refine aw_iload_n d_Trip_legsOf_34 rfl rfl ?_
  obtain ⟨t35, e_t35, h⟩ := q_bind h
  refine aw_ldi d_Trip_legsOf_35 e_t35 ?_
  refine aw_isub d_Trip_legsOf_36 ?_
  cases h
  exact aw_ireturn d_Trip_legsOf_37 rfl (Nat.le_of_ble_eq_true rfl) (Nat.le_of_ble_eq_true rfl) ⟨rfl, rfl⟩
theorem l_Trip_legsOf {res : Int32} : ∀ F : Nat, (∀ (r0 : Nat) (x1 : Int32) (s0 : Int32) (M : am_M), g_Trip_legsOf F 0 r0 x1 s0 M = some res → AW u_Trip_legsOf R_Trip_legsOf 0 0 28 [(0, .ref r0), (1, .int x1)] [.int s0] M (fun r M2 => r = .inl (some (.int res)) ∧ M2 = M)) := by
  intro F
  induction F with
  | zero => exact fun _ _ _ _  h => (by cases h)
  | succ F ih =>
    have ih0 := ih
    exact s_Trip_legsOf_0 ih0
set_option maxHeartbeats 4000000 in
theorem mt_Trip_legsOf {M : am_M} {a0 : Nat} {a1 : Int32} {res : Int32} (h : f_Trip_legsOf M a0 a1 = some res) : AMet y_Trip_legsOf u_Trip_legsOf R_Trip_legsOf [.ref a0, .int a1] M (fun r M2 => r = .inl (some (.int res)) ∧ M2 = M) := by
  refine am_met (by decide +kernel) w_Trip_legsOf rfl rfl (Nat.le_of_ble_eq_true rfl) ?_
  show AW u_Trip_legsOf R_Trip_legsOf 0 0 0 [(0, .ref a0), (1, .int a1)] [] M (fun r M2 => r = .inl (some (.int res)) ∧ M2 = M)
  have ih_0 := (l_Trip_legsOf (res := res) 1000000000)
  unfold f_Trip_legsOf at h
  unfold e_Trip_legsOf at h
  generalize g_Trip_legsOf 1000000000 = rc at h ih_0
  refine aw_iload_n d_Trip_legsOf_0 rfl rfl ?_
  refine aw_iconst (v := 1) d_Trip_legsOf_1 (by decide) ?_
  refine aw_iadd d_Trip_legsOf_2 ?_
  refine aw_aload_n d_Trip_legsOf_3 rfl rfl ?_
  obtain ⟨t4, e_t4, h⟩ := q_bind h
  refine aw_gti d_Trip_legsOf_4 fl_Trip_51 (Or.inl rfl) e_t4 ?_
  refine aw_icmp_ge (tgt := 21) d_Trip_legsOf_7 (by decide) (fun hc => ?_) (fun hc => ?_)
  · rw [if_pos hc] at h
    refine aw_aload_n d_Trip_legsOf_21 rfl rfl ?_
    obtain ⟨t22, e_t22, h⟩ := q_bind h
    refine aw_gtr d_Trip_legsOf_22 fl_Trip_12 (Or.inl ⟨_, rfl⟩) e_t22 ?_
    obtain ⟨t25, e_t25, h⟩ := q_bind h
    refine aw_gti d_Trip_legsOf_25 fl_Trip_35 (Or.inl rfl) e_t25 ?_
    exact aw_pick [0, 1] rfl (ih_0 _ _ _ _ h)
  · rw [if_neg hc] at h
    refine aw_aload_n d_Trip_legsOf_10 rfl rfl ?_
    obtain ⟨t11, e_t11, h⟩ := q_bind h
    refine aw_gtr d_Trip_legsOf_11 fl_Trip_18 (Or.inr ⟨_, rfl⟩) e_t11 ?_
    refine aw_iload_n d_Trip_legsOf_14 rfl rfl ?_
    refine aw_iconst (v := 1) d_Trip_legsOf_15 (by decide) ?_
    refine aw_iadd d_Trip_legsOf_16 ?_
    obtain ⟨t17, e_t17, h⟩ := q_bind h
    refine aw_ldi d_Trip_legsOf_17 e_t17 ?_
    refine aw_goto (tgt := 28) d_Trip_legsOf_18 (by decide) ?_
    exact aw_pick [0, 1] rfl (ih_0 _ _ _ _ h)
def y_Trip_lengthOf : MethodName := ⟨"CrewOffice$Trip", "lengthOf", "(I)I"⟩
def u_Trip_lengthOf : am_U := ("CrewOffice$Trip", "lengthOf", prog_9_method_7_code, 2, (some .int), [])
def R_Trip_lengthOf : Room := { frames := 0, cells := 0, slots := 0, locals := 0 }
theorem d_Trip_lengthOf_0 : decode u_Trip_lengthOf.2.2.1 0 = .ok (.aload_n 0, 1) := by decide +kernel
theorem d_Trip_lengthOf_1 : decode u_Trip_lengthOf.2.2.1 1 = .ok (.getfield 25, 3) := by decide +kernel
theorem d_Trip_lengthOf_4 : decode u_Trip_lengthOf.2.2.1 4 = .ok (.iload_n 1, 1) := by decide +kernel
theorem d_Trip_lengthOf_5 : decode u_Trip_lengthOf.2.2.1 5 = .ok (.iaload, 1) := by decide +kernel
theorem d_Trip_lengthOf_6 : decode u_Trip_lengthOf.2.2.1 6 = .ok (.aload_n 0, 1) := by decide +kernel
theorem d_Trip_lengthOf_7 : decode u_Trip_lengthOf.2.2.1 7 = .ok (.getfield 22, 3) := by decide +kernel
theorem d_Trip_lengthOf_10 : decode u_Trip_lengthOf.2.2.1 10 = .ok (.iload_n 1, 1) := by decide +kernel
theorem d_Trip_lengthOf_11 : decode u_Trip_lengthOf.2.2.1 11 = .ok (.iaload, 1) := by decide +kernel
theorem d_Trip_lengthOf_12 : decode u_Trip_lengthOf.2.2.1 12 = .ok (.isub, 1) := by decide +kernel
theorem d_Trip_lengthOf_13 : decode u_Trip_lengthOf.2.2.1 13 = .ok (.ireturn, 1) := by decide +kernel
theorem w_Trip_lengthOf : am_code y_Trip_lengthOf u_Trip_lengthOf ∈ am_ws := am_mem (List.mem_of_getElem? (i := 527) (by decide +kernel)) rfl
def e_Trip_lengthOf (M : am_M) (a0 : Nat) (a1 : Int32) : Option (Int32) := (q_gtr M a0 5 5).bind (fun t1 => (q_ldi M t1 a1).bind (fun t5 => (q_gtr M a0 5 4).bind (fun t7 => (q_ldi M t7 a1).bind (fun t11 => some (t5 - t11)))))
def f_Trip_lengthOf (M : am_M) (a0 : Nat) (a1 : Int32) : Option (Int32) := e_Trip_lengthOf M a0 a1
set_option maxHeartbeats 4000000 in
theorem mt_Trip_lengthOf {M : am_M} {a0 : Nat} {a1 : Int32} {res : Int32} (h : f_Trip_lengthOf M a0 a1 = some res) : AMet y_Trip_lengthOf u_Trip_lengthOf R_Trip_lengthOf [.ref a0, .int a1] M (fun r M2 => r = .inl (some (.int res)) ∧ M2 = M) := by
  refine am_met (by decide +kernel) w_Trip_lengthOf rfl rfl (Nat.le_of_ble_eq_true rfl) ?_
  show AW u_Trip_lengthOf R_Trip_lengthOf 0 0 0 [(0, .ref a0), (1, .int a1)] [] M (fun r M2 => r = .inl (some (.int res)) ∧ M2 = M)
  unfold f_Trip_lengthOf at h
  unfold e_Trip_lengthOf at h
  refine aw_aload_n d_Trip_lengthOf_0 rfl rfl ?_
  obtain ⟨t1, e_t1, h⟩ := q_bind h
  refine aw_gtr d_Trip_lengthOf_1 fl_Trip_25 (Or.inr ⟨_, rfl⟩) e_t1 ?_
  refine aw_iload_n d_Trip_lengthOf_4 rfl rfl ?_
  obtain ⟨t5, e_t5, h⟩ := q_bind h
  refine aw_ldi d_Trip_lengthOf_5 e_t5 ?_
  refine aw_aload_n d_Trip_lengthOf_6 rfl rfl ?_
  obtain ⟨t7, e_t7, h⟩ := q_bind h
  refine aw_gtr d_Trip_lengthOf_7 fl_Trip_22 (Or.inr ⟨_, rfl⟩) e_t7 ?_
  refine aw_iload_n d_Trip_lengthOf_10 rfl rfl ?_
  obtain ⟨t11, e_t11, h⟩ := q_bind h
  refine aw_ldi d_Trip_lengthOf_11 e_t11 ?_
  refine aw_isub d_Trip_lengthOf_12 ?_
  cases h
  exact aw_ireturn d_Trip_lengthOf_13 rfl (Nat.le_of_ble_eq_true rfl) (Nat.le_of_ble_eq_true rfl) ⟨rfl, rfl⟩
def y_Trip_isLinked : MethodName := ⟨"CrewOffice$Trip", "isLinked", "()Z"⟩
def u_Trip_isLinked : am_U := ("CrewOffice$Trip", "isLinked", prog_9_method_10_code, 2, (some .boolean), [])
def R_Trip_isLinked : Room := { frames := 1, cells := 0, slots := 0, locals := 22 }
theorem d_Trip_isLinked_0 : decode u_Trip_isLinked.2.2.1 0 = .ok (.iconst 1, 1) := by decide +kernel
theorem d_Trip_isLinked_1 : decode u_Trip_isLinked.2.2.1 1 = .ok (.istore_n 1, 1) := by decide +kernel
theorem d_Trip_isLinked_2 : decode u_Trip_isLinked.2.2.1 2 = .ok (.iload_n 1, 1) := by decide +kernel
theorem d_Trip_isLinked_3 : decode u_Trip_isLinked.2.2.1 3 = .ok (.aload_n 0, 1) := by decide +kernel
theorem d_Trip_isLinked_4 : decode u_Trip_isLinked.2.2.1 4 = .ok (.getfield 12, 3) := by decide +kernel
theorem d_Trip_isLinked_7 : decode u_Trip_isLinked.2.2.1 7 = .ok (.getfield 35, 3) := by decide +kernel
theorem d_Trip_isLinked_10 : decode u_Trip_isLinked.2.2.1 10 = .ok (.if_icmp .ge 41, 3) := by decide +kernel
theorem d_Trip_isLinked_13 : decode u_Trip_isLinked.2.2.1 13 = .ok (.aload_n 0, 1) := by decide +kernel
theorem d_Trip_isLinked_14 : decode u_Trip_isLinked.2.2.1 14 = .ok (.getfield 28, 3) := by decide +kernel
theorem d_Trip_isLinked_17 : decode u_Trip_isLinked.2.2.1 17 = .ok (.aload_n 0, 1) := by decide +kernel
theorem d_Trip_isLinked_18 : decode u_Trip_isLinked.2.2.1 18 = .ok (.getfield 12, 3) := by decide +kernel
theorem d_Trip_isLinked_21 : decode u_Trip_isLinked.2.2.1 21 = .ok (.getfield 32, 3) := by decide +kernel
theorem d_Trip_isLinked_24 : decode u_Trip_isLinked.2.2.1 24 = .ok (.iload_n 1, 1) := by decide +kernel
theorem d_Trip_isLinked_25 : decode u_Trip_isLinked.2.2.1 25 = .ok (.iconst 1, 1) := by decide +kernel
theorem d_Trip_isLinked_26 : decode u_Trip_isLinked.2.2.1 26 = .ok (.isub, 1) := by decide +kernel
theorem d_Trip_isLinked_27 : decode u_Trip_isLinked.2.2.1 27 = .ok (.iaload, 1) := by decide +kernel
theorem d_Trip_isLinked_28 : decode u_Trip_isLinked.2.2.1 28 = .ok (.aload_n 0, 1) := by decide +kernel
theorem d_Trip_isLinked_29 : decode u_Trip_isLinked.2.2.1 29 = .ok (.getfield 12, 3) := by decide +kernel
theorem d_Trip_isLinked_32 : decode u_Trip_isLinked.2.2.1 32 = .ok (.getfield 32, 3) := by decide +kernel
theorem d_Trip_isLinked_35 : decode u_Trip_isLinked.2.2.1 35 = .ok (.iload_n 1, 1) := by decide +kernel
theorem d_Trip_isLinked_36 : decode u_Trip_isLinked.2.2.1 36 = .ok (.iaload, 1) := by decide +kernel
theorem d_Trip_isLinked_37 : decode u_Trip_isLinked.2.2.1 37 = .ok (.invokevirtual 134, 3) := by decide +kernel
theorem d_Trip_isLinked_40 : decode u_Trip_isLinked.2.2.1 40 = .ok (.ifCond .ne 5, 3) := by decide +kernel
theorem d_Trip_isLinked_43 : decode u_Trip_isLinked.2.2.1 43 = .ok (.iconst 0, 1) := by decide +kernel
theorem d_Trip_isLinked_44 : decode u_Trip_isLinked.2.2.1 44 = .ok (.ireturn, 1) := by decide +kernel
theorem d_Trip_isLinked_45 : decode u_Trip_isLinked.2.2.1 45 = .ok (.iinc 1 1, 3) := by decide +kernel
theorem d_Trip_isLinked_48 : decode u_Trip_isLinked.2.2.1 48 = .ok (.goto (-46), 3) := by decide +kernel
theorem d_Trip_isLinked_51 : decode u_Trip_isLinked.2.2.1 51 = .ok (.iconst 1, 1) := by decide +kernel
theorem d_Trip_isLinked_52 : decode u_Trip_isLinked.2.2.1 52 = .ok (.ireturn, 1) := by decide +kernel
theorem w_Trip_isLinked : am_code y_Trip_isLinked u_Trip_isLinked ∈ am_ws := am_mem (List.mem_of_getElem? (i := 510) (by decide +kernel)) rfl
def a_Trip_isLinked_0 (rc : Nat → Nat → Int32 → am_M → Option (Int32)) (r0 : Nat) (x1 : Int32) (M : am_M) : Option (Int32) := (q_gtr M r0 5 1).bind (fun t4 => (q_gti M t4 4 1).bind (fun t7 => if t7 ≤ x1 then (some (1 : Int32)) else ((q_gtr M r0 5 0).bind (fun t14 => (q_gtr M r0 5 1).bind (fun t18 => (q_gtr M t18 4 0).bind (fun t21 => (q_ldi M t21 (x1 - (1 : Int32))).bind (fun t27 => (q_gtr M r0 5 1).bind (fun t29 => (q_gtr M t29 4 0).bind (fun t32 => (q_ldi M t32 x1).bind (fun t36 => (q_ob M t14 3).bind (fun o37 => (f_Plan_canFollow M t14 t27 t36).bind (fun t37 => if t37 = 0 then (some (0 : Int32)) else (rc 0 r0 (x1 + (1 : Int32)) M)))))))))))))
def g_Trip_isLinked : Nat → Nat → Nat → Int32 → am_M → Option (Int32)
  | 0, _, _, _, _ => none
  | F + 1, 0, r0, x1, M => a_Trip_isLinked_0 (g_Trip_isLinked F) r0 x1 M
  | _ + 1, _ + 1, _, _, _ => none
def e_Trip_isLinked (rc : Nat → Nat → Int32 → am_M → Option (Int32)) (M : am_M) (a0 : Nat) : Option (Int32) := rc 0 a0 (1 : Int32) M
def f_Trip_isLinked (M : am_M) (a0 : Nat) : Option (Int32) := e_Trip_isLinked (g_Trip_isLinked 1000000000) M a0
theorem kV_Trip_134 : am_kV "CrewOffice$Trip" 134 3 y_Plan_canFollow u_Plan_canFollow 2 := ⟨List.mem_of_getElem? (i := 511) (by decide +kernel), ⟨List.mem_of_getElem? (i := 487) (by decide +kernel), List.mem_of_getElem? (i := 488) (by decide +kernel)⟩, List.mem_of_getElem? (i := 55) (by decide +kernel), w_Plan_canFollow, ⟨⟨by decide +kernel, by decide +kernel⟩, by decide +kernel⟩⟩
set_option maxHeartbeats 4000000 in
theorem s_Trip_isLinked_0 {rc : Nat → Nat → Int32 → am_M → Option (Int32)} {res : Int32} (ih_0 : ∀ (r0 : Nat) (x1 : Int32) (M : am_M), rc 0 r0 x1 M = some res → AW u_Trip_isLinked R_Trip_isLinked 0 0 2 [(0, .ref r0), (1, .int x1)] [] M (fun r M2 => r = .inl (some (.int res)) ∧ M2 = M)) : ∀ (r0 : Nat) (x1 : Int32) (M : am_M), a_Trip_isLinked_0 rc r0 x1 M = some res → AW u_Trip_isLinked R_Trip_isLinked 0 0 2 [(0, .ref r0), (1, .int x1)] [] M (fun r M2 => r = .inl (some (.int res)) ∧ M2 = M) := by
  intro r0 x1 M h
  unfold a_Trip_isLinked_0 at h
  refine aw_iload_n d_Trip_isLinked_2 rfl rfl ?_
  refine aw_aload_n d_Trip_isLinked_3 rfl rfl ?_
  obtain ⟨t4, e_t4, h⟩ := q_bind h
  refine aw_gtr d_Trip_isLinked_4 fl_Trip_12 (Or.inl ⟨_, rfl⟩) e_t4 ?_
  obtain ⟨t7, e_t7, h⟩ := q_bind h
  refine aw_gti d_Trip_isLinked_7 fl_Trip_35 (Or.inl rfl) e_t7 ?_
  refine aw_icmp_ge (tgt := 51) d_Trip_isLinked_10 (by decide) (fun hc => ?_) (fun hc => ?_)
  · rw [if_pos hc] at h
    refine aw_iconst (v := 1) d_Trip_isLinked_51 (by decide) ?_
    cases h
    exact aw_zreturn d_Trip_isLinked_52 rfl (by decide) (Nat.le_of_ble_eq_true rfl) (Nat.le_of_ble_eq_true rfl) ⟨rfl, rfl⟩
  · rw [if_neg hc] at h
    refine aw_aload_n d_Trip_isLinked_13 rfl rfl ?_
    obtain ⟨t14, e_t14, h⟩ := q_bind h
    refine aw_gtr d_Trip_isLinked_14 fl_Trip_28 (Or.inl ⟨_, rfl⟩) e_t14 ?_
    refine aw_aload_n d_Trip_isLinked_17 rfl rfl ?_
    obtain ⟨t18, e_t18, h⟩ := q_bind h
    refine aw_gtr d_Trip_isLinked_18 fl_Trip_12 (Or.inl ⟨_, rfl⟩) e_t18 ?_
    obtain ⟨t21, e_t21, h⟩ := q_bind h
    refine aw_gtr d_Trip_isLinked_21 fl_Trip_32 (Or.inr ⟨_, rfl⟩) e_t21 ?_
    refine aw_iload_n d_Trip_isLinked_24 rfl rfl ?_
    refine aw_iconst (v := 1) d_Trip_isLinked_25 (by decide) ?_
    refine aw_isub d_Trip_isLinked_26 ?_
    obtain ⟨t27, e_t27, h⟩ := q_bind h
    refine aw_ldi d_Trip_isLinked_27 e_t27 ?_
    refine aw_aload_n d_Trip_isLinked_28 rfl rfl ?_
    obtain ⟨t29, e_t29, h⟩ := q_bind h
    refine aw_gtr d_Trip_isLinked_29 fl_Trip_12 (Or.inl ⟨_, rfl⟩) e_t29 ?_
    obtain ⟨t32, e_t32, h⟩ := q_bind h
    refine aw_gtr d_Trip_isLinked_32 fl_Trip_32 (Or.inr ⟨_, rfl⟩) e_t32 ?_
    refine aw_iload_n d_Trip_isLinked_35 rfl rfl ?_
    obtain ⟨t36, e_t36, h⟩ := q_bind h
    refine aw_ldi d_Trip_isLinked_36 e_t36 ?_
    obtain ⟨o37, e_o37, h⟩ := q_bind h
    obtain ⟨t37, e_t37, h⟩ := q_bind h
    refine aw_cV (v := (some (.int t37))) (As := [.int t27, .int t36]) (rest := []) (st' := [.int t37]) d_Trip_isLinked_37 kV_Trip_134 (q_ob_spec e_o37).1 (q_ob_spec e_o37).2 ⟨Nat.le_of_ble_eq_true rfl, Nat.le_of_ble_eq_true rfl, Nat.le_of_ble_eq_true rfl, Nat.le_of_ble_eq_true rfl⟩ rfl rfl (Nat.le_of_ble_eq_true rfl) rfl (mt_Plan_canFollow e_t37) ?_
    refine aw_if_ne (tgt := 45) d_Trip_isLinked_40 (by decide) (fun hc => ?_) (fun hc => ?_)
    · rw [if_neg hc] at h
      refine aw_iinc (v := (x1 + (1 : Int32))) (ls' := [(1, .int _), (0, .ref _)]) d_Trip_isLinked_45 rfl rfl (Nat.le_of_ble_eq_true rfl) rfl ?_
      refine aw_goto (tgt := 2) d_Trip_isLinked_48 (by decide) ?_
      exact aw_pick [1, 0] rfl (ih_0 _ _ _ h)
    · rw [if_pos hc] at h
      refine aw_iconst (v := 0) d_Trip_isLinked_43 (by decide) ?_
      cases h
      exact aw_zreturn d_Trip_isLinked_44 rfl (by decide) (Nat.le_of_ble_eq_true rfl) (Nat.le_of_ble_eq_true rfl) ⟨rfl, rfl⟩
theorem l_Trip_isLinked {res : Int32} : ∀ F : Nat, (∀ (r0 : Nat) (x1 : Int32) (M : am_M), g_Trip_isLinked F 0 r0 x1 M = some res → AW u_Trip_isLinked R_Trip_isLinked 0 0 2 [(0, .ref r0), (1, .int x1)] [] M (fun r M2 => r = .inl (some (.int res)) ∧ M2 = M)) := by
  intro F
  induction F with
  | zero => exact fun _ _ _  h => (by cases h)
  | succ F ih =>
    have ih0 := ih
    exact s_Trip_isLinked_0 ih0
set_option maxHeartbeats 4000000 in
theorem mt_Trip_isLinked {M : am_M} {a0 : Nat} {res : Int32} (h : f_Trip_isLinked M a0 = some res) : AMet y_Trip_isLinked u_Trip_isLinked R_Trip_isLinked [.ref a0] M (fun r M2 => r = .inl (some (.int res)) ∧ M2 = M) := by
  refine am_met (by decide +kernel) w_Trip_isLinked rfl rfl (Nat.le_of_ble_eq_true rfl) ?_
  show AW u_Trip_isLinked R_Trip_isLinked 0 0 0 [(0, .ref a0)] [] M (fun r M2 => r = .inl (some (.int res)) ∧ M2 = M)
  have ih_0 := (l_Trip_isLinked (res := res) 1000000000)
  unfold f_Trip_isLinked at h
  unfold e_Trip_isLinked at h
  generalize g_Trip_isLinked 1000000000 = rc at h ih_0
  refine aw_iconst (v := 1) d_Trip_isLinked_0 (by decide) ?_
  refine aw_istore_n (ls' := [(1, .int _), (0, .ref _)]) d_Trip_isLinked_1 rfl (Nat.le_of_ble_eq_true rfl) rfl ?_
  exact aw_pick [1, 0] rfl (ih_0 _ _ _ h)
def y_Trip_hasTooManyLegs : MethodName := ⟨"CrewOffice$Trip", "hasTooManyLegs", "()Z"⟩
def u_Trip_hasTooManyLegs : am_U := ("CrewOffice$Trip", "hasTooManyLegs", prog_9_method_11_code, 2, (some .boolean), [])
def R_Trip_hasTooManyLegs : Room := { frames := 1, cells := 0, slots := 0, locals := 22 }
theorem d_Trip_hasTooManyLegs_0 : decode u_Trip_hasTooManyLegs.2.2.1 0 = .ok (.iconst 0, 1) := by decide +kernel
theorem d_Trip_hasTooManyLegs_1 : decode u_Trip_hasTooManyLegs.2.2.1 1 = .ok (.istore_n 1, 1) := by decide +kernel
theorem d_Trip_hasTooManyLegs_2 : decode u_Trip_hasTooManyLegs.2.2.1 2 = .ok (.iload_n 1, 1) := by decide +kernel
theorem d_Trip_hasTooManyLegs_3 : decode u_Trip_hasTooManyLegs.2.2.1 3 = .ok (.aload_n 0, 1) := by decide +kernel
theorem d_Trip_hasTooManyLegs_4 : decode u_Trip_hasTooManyLegs.2.2.1 4 = .ok (.getfield 51, 3) := by decide +kernel
theorem d_Trip_hasTooManyLegs_7 : decode u_Trip_hasTooManyLegs.2.2.1 7 = .ok (.if_icmp .ge 28, 3) := by decide +kernel
theorem d_Trip_hasTooManyLegs_10 : decode u_Trip_hasTooManyLegs.2.2.1 10 = .ok (.aload_n 0, 1) := by decide +kernel
theorem d_Trip_hasTooManyLegs_11 : decode u_Trip_hasTooManyLegs.2.2.1 11 = .ok (.iload_n 1, 1) := by decide +kernel
theorem d_Trip_hasTooManyLegs_12 : decode u_Trip_hasTooManyLegs.2.2.1 12 = .ok (.invokevirtual 137, 3) := by decide +kernel
theorem d_Trip_hasTooManyLegs_15 : decode u_Trip_hasTooManyLegs.2.2.1 15 = .ok (.aload_n 0, 1) := by decide +kernel
theorem d_Trip_hasTooManyLegs_16 : decode u_Trip_hasTooManyLegs.2.2.1 16 = .ok (.getfield 28, 3) := by decide +kernel
theorem d_Trip_hasTooManyLegs_19 : decode u_Trip_hasTooManyLegs.2.2.1 19 = .ok (.getfield 73, 3) := by decide +kernel
theorem d_Trip_hasTooManyLegs_22 : decode u_Trip_hasTooManyLegs.2.2.1 22 = .ok (.iconst 5, 1) := by decide +kernel
theorem d_Trip_hasTooManyLegs_23 : decode u_Trip_hasTooManyLegs.2.2.1 23 = .ok (.iaload, 1) := by decide +kernel
theorem d_Trip_hasTooManyLegs_24 : decode u_Trip_hasTooManyLegs.2.2.1 24 = .ok (.if_icmp .le 5, 3) := by decide +kernel
theorem d_Trip_hasTooManyLegs_27 : decode u_Trip_hasTooManyLegs.2.2.1 27 = .ok (.iconst 1, 1) := by decide +kernel
theorem d_Trip_hasTooManyLegs_28 : decode u_Trip_hasTooManyLegs.2.2.1 28 = .ok (.ireturn, 1) := by decide +kernel
theorem d_Trip_hasTooManyLegs_29 : decode u_Trip_hasTooManyLegs.2.2.1 29 = .ok (.iinc 1 1, 3) := by decide +kernel
theorem d_Trip_hasTooManyLegs_32 : decode u_Trip_hasTooManyLegs.2.2.1 32 = .ok (.goto (-30), 3) := by decide +kernel
theorem d_Trip_hasTooManyLegs_35 : decode u_Trip_hasTooManyLegs.2.2.1 35 = .ok (.iconst 0, 1) := by decide +kernel
theorem d_Trip_hasTooManyLegs_36 : decode u_Trip_hasTooManyLegs.2.2.1 36 = .ok (.ireturn, 1) := by decide +kernel
theorem w_Trip_hasTooManyLegs : am_code y_Trip_hasTooManyLegs u_Trip_hasTooManyLegs ∈ am_ws := am_mem (List.mem_of_getElem? (i := 515) (by decide +kernel)) rfl
def a_Trip_hasTooManyLegs_0 (rc : Nat → Nat → Int32 → am_M → Option (Int32)) (r0 : Nat) (x1 : Int32) (M : am_M) : Option (Int32) := (q_gti M r0 5 2).bind (fun t4 => if t4 ≤ x1 then (some (0 : Int32)) else ((q_ob M r0 5).bind (fun o12 => (f_Trip_legsOf M r0 x1).bind (fun t12 => (q_gtr M r0 5 0).bind (fun t16 => (q_gtr M t16 3 3).bind (fun t19 => (q_ldi M t19 (5 : Int32)).bind (fun t23 => if t12 ≤ t23 then (rc 0 r0 (x1 + (1 : Int32)) M) else (some (1 : Int32)))))))))
def g_Trip_hasTooManyLegs : Nat → Nat → Nat → Int32 → am_M → Option (Int32)
  | 0, _, _, _, _ => none
  | F + 1, 0, r0, x1, M => a_Trip_hasTooManyLegs_0 (g_Trip_hasTooManyLegs F) r0 x1 M
  | _ + 1, _ + 1, _, _, _ => none
def e_Trip_hasTooManyLegs (rc : Nat → Nat → Int32 → am_M → Option (Int32)) (M : am_M) (a0 : Nat) : Option (Int32) := rc 0 a0 (0 : Int32) M
def f_Trip_hasTooManyLegs (M : am_M) (a0 : Nat) : Option (Int32) := e_Trip_hasTooManyLegs (g_Trip_hasTooManyLegs 1000000000) M a0
theorem kV_Trip_137 : am_kV "CrewOffice$Trip" 137 5 y_Trip_legsOf u_Trip_legsOf 1 := ⟨List.mem_of_getElem? (i := 516) (by decide +kernel), ⟨List.mem_of_getElem? (i := 518) (by decide +kernel), List.mem_of_getElem? (i := 6) (by decide +kernel)⟩, List.mem_of_getElem? (i := 60) (by decide +kernel), w_Trip_legsOf, ⟨⟨by decide +kernel, by decide +kernel⟩, by decide +kernel⟩⟩
set_option maxHeartbeats 4000000 in
theorem s_Trip_hasTooManyLegs_0 {rc : Nat → Nat → Int32 → am_M → Option (Int32)} {res : Int32} (ih_0 : ∀ (r0 : Nat) (x1 : Int32) (M : am_M), rc 0 r0 x1 M = some res → AW u_Trip_hasTooManyLegs R_Trip_hasTooManyLegs 0 0 2 [(0, .ref r0), (1, .int x1)] [] M (fun r M2 => r = .inl (some (.int res)) ∧ M2 = M)) : ∀ (r0 : Nat) (x1 : Int32) (M : am_M), a_Trip_hasTooManyLegs_0 rc r0 x1 M = some res → AW u_Trip_hasTooManyLegs R_Trip_hasTooManyLegs 0 0 2 [(0, .ref r0), (1, .int x1)] [] M (fun r M2 => r = .inl (some (.int res)) ∧ M2 = M) := by
  intro r0 x1 M h
  unfold a_Trip_hasTooManyLegs_0 at h
  refine aw_iload_n d_Trip_hasTooManyLegs_2 rfl rfl ?_
  refine aw_aload_n d_Trip_hasTooManyLegs_3 rfl rfl ?_
  obtain ⟨t4, e_t4, h⟩ := q_bind h
  refine aw_gti d_Trip_hasTooManyLegs_4 fl_Trip_51 (Or.inl rfl) e_t4 ?_
  refine aw_icmp_ge (tgt := 35) d_Trip_hasTooManyLegs_7 (by decide) (fun hc => ?_) (fun hc => ?_)
  · rw [if_pos hc] at h
    refine aw_iconst (v := 0) d_Trip_hasTooManyLegs_35 (by decide) ?_
    cases h
    exact aw_zreturn d_Trip_hasTooManyLegs_36 rfl (by decide) (Nat.le_of_ble_eq_true rfl) (Nat.le_of_ble_eq_true rfl) ⟨rfl, rfl⟩
  · rw [if_neg hc] at h
    refine aw_aload_n d_Trip_hasTooManyLegs_10 rfl rfl ?_
    refine aw_iload_n d_Trip_hasTooManyLegs_11 rfl rfl ?_
    obtain ⟨o12, e_o12, h⟩ := q_bind h
    obtain ⟨t12, e_t12, h⟩ := q_bind h
    refine aw_cV (v := (some (.int t12))) (As := [.int x1]) (rest := []) (st' := [.int t12]) d_Trip_hasTooManyLegs_12 kV_Trip_137 (q_ob_spec e_o12).1 (q_ob_spec e_o12).2 ⟨Nat.le_of_ble_eq_true rfl, Nat.le_of_ble_eq_true rfl, Nat.le_of_ble_eq_true rfl, Nat.le_of_ble_eq_true rfl⟩ rfl rfl (Nat.le_of_ble_eq_true rfl) rfl (mt_Trip_legsOf e_t12) ?_
    refine aw_aload_n d_Trip_hasTooManyLegs_15 rfl rfl ?_
    obtain ⟨t16, e_t16, h⟩ := q_bind h
    refine aw_gtr d_Trip_hasTooManyLegs_16 fl_Trip_28 (Or.inl ⟨_, rfl⟩) e_t16 ?_
    obtain ⟨t19, e_t19, h⟩ := q_bind h
    refine aw_gtr d_Trip_hasTooManyLegs_19 fl_Trip_73 (Or.inr ⟨_, rfl⟩) e_t19 ?_
    refine aw_iconst (v := 5) d_Trip_hasTooManyLegs_22 (by decide) ?_
    obtain ⟨t23, e_t23, h⟩ := q_bind h
    refine aw_ldi d_Trip_hasTooManyLegs_23 e_t23 ?_
    refine aw_icmp_le (tgt := 29) d_Trip_hasTooManyLegs_24 (by decide) (fun hc => ?_) (fun hc => ?_)
    · rw [if_pos hc] at h
      refine aw_iinc (v := (x1 + (1 : Int32))) (ls' := [(1, .int _), (0, .ref _)]) d_Trip_hasTooManyLegs_29 rfl rfl (Nat.le_of_ble_eq_true rfl) rfl ?_
      refine aw_goto (tgt := 2) d_Trip_hasTooManyLegs_32 (by decide) ?_
      exact aw_pick [1, 0] rfl (ih_0 _ _ _ h)
    · rw [if_neg hc] at h
      refine aw_iconst (v := 1) d_Trip_hasTooManyLegs_27 (by decide) ?_
      cases h
      exact aw_zreturn d_Trip_hasTooManyLegs_28 rfl (by decide) (Nat.le_of_ble_eq_true rfl) (Nat.le_of_ble_eq_true rfl) ⟨rfl, rfl⟩
theorem l_Trip_hasTooManyLegs {res : Int32} : ∀ F : Nat, (∀ (r0 : Nat) (x1 : Int32) (M : am_M), g_Trip_hasTooManyLegs F 0 r0 x1 M = some res → AW u_Trip_hasTooManyLegs R_Trip_hasTooManyLegs 0 0 2 [(0, .ref r0), (1, .int x1)] [] M (fun r M2 => r = .inl (some (.int res)) ∧ M2 = M)) := by
  intro F
  induction F with
  | zero => exact fun _ _ _  h => (by cases h)
  | succ F ih =>
    have ih0 := ih
    exact s_Trip_hasTooManyLegs_0 ih0
set_option maxHeartbeats 4000000 in
theorem mt_Trip_hasTooManyLegs {M : am_M} {a0 : Nat} {res : Int32} (h : f_Trip_hasTooManyLegs M a0 = some res) : AMet y_Trip_hasTooManyLegs u_Trip_hasTooManyLegs R_Trip_hasTooManyLegs [.ref a0] M (fun r M2 => r = .inl (some (.int res)) ∧ M2 = M) := by
  refine am_met (by decide +kernel) w_Trip_hasTooManyLegs rfl rfl (Nat.le_of_ble_eq_true rfl) ?_
  show AW u_Trip_hasTooManyLegs R_Trip_hasTooManyLegs 0 0 0 [(0, .ref a0)] [] M (fun r M2 => r = .inl (some (.int res)) ∧ M2 = M)
  have ih_0 := (l_Trip_hasTooManyLegs (res := res) 1000000000)
  unfold f_Trip_hasTooManyLegs at h
  unfold e_Trip_hasTooManyLegs at h
  generalize g_Trip_hasTooManyLegs 1000000000 = rc at h ih_0
  refine aw_iconst (v := 0) d_Trip_hasTooManyLegs_0 (by decide) ?_
  refine aw_istore_n (ls' := [(1, .int _), (0, .ref _)]) d_Trip_hasTooManyLegs_1 rfl (Nat.le_of_ble_eq_true rfl) rfl ?_
  exact aw_pick [1, 0] rfl (ih_0 _ _ _ h)
def y_Work_copy : MethodName := ⟨"CrewOffice$Work", "copy", "(LCrewOffice$Work;)V"⟩
def u_Work_copy : am_U := ("CrewOffice$Work", "copy", prog_10_method_2_code, 2, none, [])
def R_Work_copy : Room := { frames := 1, cells := 0, slots := 0, locals := 39 }
theorem d_Work_copy_0 : decode u_Work_copy.2.2.1 0 = .ok (.aload_n 1, 1) := by decide +kernel
theorem d_Work_copy_1 : decode u_Work_copy.2.2.1 1 = .ok (.getfield 9, 3) := by decide +kernel
theorem d_Work_copy_4 : decode u_Work_copy.2.2.1 4 = .ok (.iconst 0, 1) := by decide +kernel
theorem d_Work_copy_5 : decode u_Work_copy.2.2.1 5 = .ok (.aload_n 0, 1) := by decide +kernel
theorem d_Work_copy_6 : decode u_Work_copy.2.2.1 6 = .ok (.getfield 9, 3) := by decide +kernel
theorem d_Work_copy_9 : decode u_Work_copy.2.2.1 9 = .ok (.iconst 0, 1) := by decide +kernel
theorem d_Work_copy_10 : decode u_Work_copy.2.2.1 10 = .ok (.bipush 8, 2) := by decide +kernel
theorem d_Work_copy_12 : decode u_Work_copy.2.2.1 12 = .ok (.invokestatic 15, 3) := by decide +kernel
theorem d_Work_copy_15 : decode u_Work_copy.2.2.1 15 = .ok (.aload_n 0, 1) := by decide +kernel
theorem d_Work_copy_16 : decode u_Work_copy.2.2.1 16 = .ok (.aload_n 1, 1) := by decide +kernel
theorem d_Work_copy_17 : decode u_Work_copy.2.2.1 17 = .ok (.getfield 21, 3) := by decide +kernel
theorem d_Work_copy_20 : decode u_Work_copy.2.2.1 20 = .ok (.putfield 21, 3) := by decide +kernel
theorem d_Work_copy_23 : decode u_Work_copy.2.2.1 23 = .ok (.aload_n 0, 1) := by decide +kernel
theorem d_Work_copy_24 : decode u_Work_copy.2.2.1 24 = .ok (.aload_n 1, 1) := by decide +kernel
theorem d_Work_copy_25 : decode u_Work_copy.2.2.1 25 = .ok (.getfield 25, 3) := by decide +kernel
theorem d_Work_copy_28 : decode u_Work_copy.2.2.1 28 = .ok (.putfield 25, 3) := by decide +kernel
theorem d_Work_copy_31 : decode u_Work_copy.2.2.1 31 = .ok (.aload_n 0, 1) := by decide +kernel
theorem d_Work_copy_32 : decode u_Work_copy.2.2.1 32 = .ok (.aload_n 1, 1) := by decide +kernel
theorem d_Work_copy_33 : decode u_Work_copy.2.2.1 33 = .ok (.getfield 28, 3) := by decide +kernel
theorem d_Work_copy_36 : decode u_Work_copy.2.2.1 36 = .ok (.putfield 28, 3) := by decide +kernel
theorem d_Work_copy_39 : decode u_Work_copy.2.2.1 39 = .ok (.aload_n 0, 1) := by decide +kernel
theorem d_Work_copy_40 : decode u_Work_copy.2.2.1 40 = .ok (.aload_n 1, 1) := by decide +kernel
theorem d_Work_copy_41 : decode u_Work_copy.2.2.1 41 = .ok (.getfield 31, 3) := by decide +kernel
theorem d_Work_copy_44 : decode u_Work_copy.2.2.1 44 = .ok (.putfield 31, 3) := by decide +kernel
theorem d_Work_copy_47 : decode u_Work_copy.2.2.1 47 = .ok (.aload_n 0, 1) := by decide +kernel
theorem d_Work_copy_48 : decode u_Work_copy.2.2.1 48 = .ok (.aload_n 1, 1) := by decide +kernel
theorem d_Work_copy_49 : decode u_Work_copy.2.2.1 49 = .ok (.getfield 34, 3) := by decide +kernel
theorem d_Work_copy_52 : decode u_Work_copy.2.2.1 52 = .ok (.putfield 34, 3) := by decide +kernel
theorem d_Work_copy_55 : decode u_Work_copy.2.2.1 55 = .ok (.aload_n 0, 1) := by decide +kernel
theorem d_Work_copy_56 : decode u_Work_copy.2.2.1 56 = .ok (.aload_n 1, 1) := by decide +kernel
theorem d_Work_copy_57 : decode u_Work_copy.2.2.1 57 = .ok (.getfield 37, 3) := by decide +kernel
theorem d_Work_copy_60 : decode u_Work_copy.2.2.1 60 = .ok (.putfield 37, 3) := by decide +kernel
theorem d_Work_copy_63 : decode u_Work_copy.2.2.1 63 = .ok (.aload_n 0, 1) := by decide +kernel
theorem d_Work_copy_64 : decode u_Work_copy.2.2.1 64 = .ok (.aload_n 1, 1) := by decide +kernel
theorem d_Work_copy_65 : decode u_Work_copy.2.2.1 65 = .ok (.getfield 40, 3) := by decide +kernel
theorem d_Work_copy_68 : decode u_Work_copy.2.2.1 68 = .ok (.putfield 40, 3) := by decide +kernel
theorem d_Work_copy_71 : decode u_Work_copy.2.2.1 71 = .ok (.return_, 1) := by decide +kernel
theorem w_Work_copy : am_code y_Work_copy u_Work_copy ∈ am_ws := am_mem (List.mem_of_getElem? (i := 585) (by decide +kernel)) rfl
def e_Work_copy (M : am_M) (a0 : Nat) (a1 : Nat) : Option (Unit × am_M) := (q_gtr M a1 4 0).bind (fun t1 => (q_gtr M a0 4 0).bind (fun t6 => (q_cpy M t1 (0 : Int32) t6 (0 : Int32) (8 : Int32)).bind (fun M12 => (q_gti M12 a1 4 1).bind (fun t17 => (q_pti M12 a0 4 1 t17).bind (fun M20 => (q_gti M20 a1 4 2).bind (fun t25 => (q_pti M20 a0 4 2 t25).bind (fun M28 => (q_gti M28 a1 4 3).bind (fun t33 => (q_pti M28 a0 4 3 t33).bind (fun M36 => (q_gti M36 a1 4 4).bind (fun t41 => (q_pti M36 a0 4 4 t41).bind (fun M44 => (q_gti M44 a1 4 5).bind (fun t49 => (q_pti M44 a0 4 5 t49).bind (fun M52 => (q_gti M52 a1 4 6).bind (fun t57 => (q_pti M52 a0 4 6 t57).bind (fun M60 => (q_gti M60 a1 4 7).bind (fun t65 => (q_pti M60 a0 4 7 t65).bind (fun M68 => some ((), M68))))))))))))))))))
def f_Work_copy (M : am_M) (a0 : Nat) (a1 : Nat) : Option (Unit × am_M) := e_Work_copy M a0 a1
theorem fl_Work_9 : am_fl "CrewOffice$Work" 9 4 0 := ⟨by decide, by decide, List.mem_of_getElem? (i := 260) (by decide +kernel)⟩
theorem fl_Work_21 : am_fl "CrewOffice$Work" 21 4 1 := ⟨by decide, by decide, List.mem_of_getElem? (i := 264) (by decide +kernel)⟩
theorem fl_Work_25 : am_fl "CrewOffice$Work" 25 4 2 := ⟨by decide, by decide, List.mem_of_getElem? (i := 268) (by decide +kernel)⟩
theorem fl_Work_28 : am_fl "CrewOffice$Work" 28 4 3 := ⟨by decide, by decide, List.mem_of_getElem? (i := 271) (by decide +kernel)⟩
theorem fl_Work_31 : am_fl "CrewOffice$Work" 31 4 4 := ⟨by decide, by decide, List.mem_of_getElem? (i := 277) (by decide +kernel)⟩
theorem fl_Work_34 : am_fl "CrewOffice$Work" 34 4 5 := ⟨by decide, by decide, List.mem_of_getElem? (i := 283) (by decide +kernel)⟩
theorem fl_Work_37 : am_fl "CrewOffice$Work" 37 4 6 := ⟨by decide, by decide, List.mem_of_getElem? (i := 288) (by decide +kernel)⟩
theorem fl_Work_40 : am_fl "CrewOffice$Work" 40 4 7 := ⟨by decide, by decide, List.mem_of_getElem? (i := 291) (by decide +kernel)⟩
set_option maxHeartbeats 4000000 in
theorem mt_Work_copy {M : am_M} {a0 : Nat} {a1 : Nat} {res : Unit} {M' : am_M} (h : f_Work_copy M a0 a1 = some (res, M')) : AMet y_Work_copy u_Work_copy R_Work_copy [.ref a0, .ref a1] M (fun r M2 => r = .inl none ∧ M2 = M') := by
  refine am_met (by decide +kernel) w_Work_copy rfl rfl (Nat.le_of_ble_eq_true rfl) ?_
  show AW u_Work_copy R_Work_copy 0 0 0 [(0, .ref a0), (1, .ref a1)] [] M (fun r M2 => r = .inl none ∧ M2 = M')
  unfold f_Work_copy at h
  unfold e_Work_copy at h
  refine aw_aload_n d_Work_copy_0 rfl rfl ?_
  obtain ⟨t1, e_t1, h⟩ := q_bind h
  refine aw_gtr d_Work_copy_1 fl_Work_9 (Or.inr ⟨_, rfl⟩) e_t1 ?_
  refine aw_iconst (v := 0) d_Work_copy_4 (by decide) ?_
  refine aw_aload_n d_Work_copy_5 rfl rfl ?_
  obtain ⟨t6, e_t6, h⟩ := q_bind h
  refine aw_gtr d_Work_copy_6 fl_Work_9 (Or.inr ⟨_, rfl⟩) e_t6 ?_
  refine aw_iconst (v := 0) d_Work_copy_9 (by decide) ?_
  refine aw_bipush (v := 8) d_Work_copy_10 (by decide) ?_
  obtain ⟨M12, e_M12, h⟩ := q_bind h
  refine aw_cpy d_Work_copy_12 (List.mem_of_getElem? (i := 586) (by decide +kernel)) (Nat.le_of_ble_eq_true rfl) (Nat.le_of_ble_eq_true rfl) e_M12 ?_
  refine aw_aload_n d_Work_copy_15 rfl rfl ?_
  refine aw_aload_n d_Work_copy_16 rfl rfl ?_
  obtain ⟨t17, e_t17, h⟩ := q_bind h
  refine aw_gti d_Work_copy_17 fl_Work_21 (Or.inl rfl) e_t17 ?_
  obtain ⟨M20, e_M20, h⟩ := q_bind h
  refine aw_pti d_Work_copy_20 fl_Work_21 rfl rfl e_M20 ?_
  refine aw_aload_n d_Work_copy_23 rfl rfl ?_
  refine aw_aload_n d_Work_copy_24 rfl rfl ?_
  obtain ⟨t25, e_t25, h⟩ := q_bind h
  refine aw_gti d_Work_copy_25 fl_Work_25 (Or.inl rfl) e_t25 ?_
  obtain ⟨M28, e_M28, h⟩ := q_bind h
  refine aw_pti d_Work_copy_28 fl_Work_25 rfl rfl e_M28 ?_
  refine aw_aload_n d_Work_copy_31 rfl rfl ?_
  refine aw_aload_n d_Work_copy_32 rfl rfl ?_
  obtain ⟨t33, e_t33, h⟩ := q_bind h
  refine aw_gti d_Work_copy_33 fl_Work_28 (Or.inl rfl) e_t33 ?_
  obtain ⟨M36, e_M36, h⟩ := q_bind h
  refine aw_pti d_Work_copy_36 fl_Work_28 rfl rfl e_M36 ?_
  refine aw_aload_n d_Work_copy_39 rfl rfl ?_
  refine aw_aload_n d_Work_copy_40 rfl rfl ?_
  obtain ⟨t41, e_t41, h⟩ := q_bind h
  refine aw_gti d_Work_copy_41 fl_Work_31 (Or.inl rfl) e_t41 ?_
  obtain ⟨M44, e_M44, h⟩ := q_bind h
  refine aw_pti d_Work_copy_44 fl_Work_31 rfl rfl e_M44 ?_
  refine aw_aload_n d_Work_copy_47 rfl rfl ?_
  refine aw_aload_n d_Work_copy_48 rfl rfl ?_
  obtain ⟨t49, e_t49, h⟩ := q_bind h
  refine aw_gti d_Work_copy_49 fl_Work_34 (Or.inl rfl) e_t49 ?_
  obtain ⟨M52, e_M52, h⟩ := q_bind h
  refine aw_pti d_Work_copy_52 fl_Work_34 rfl rfl e_M52 ?_
  refine aw_aload_n d_Work_copy_55 rfl rfl ?_
  refine aw_aload_n d_Work_copy_56 rfl rfl ?_
  obtain ⟨t57, e_t57, h⟩ := q_bind h
  refine aw_gti d_Work_copy_57 fl_Work_37 (Or.inl rfl) e_t57 ?_
  obtain ⟨M60, e_M60, h⟩ := q_bind h
  refine aw_pti d_Work_copy_60 fl_Work_37 rfl rfl e_M60 ?_
  refine aw_aload_n d_Work_copy_63 rfl rfl ?_
  refine aw_aload_n d_Work_copy_64 rfl rfl ?_
  obtain ⟨t65, e_t65, h⟩ := q_bind h
  refine aw_gti d_Work_copy_65 fl_Work_40 (Or.inl rfl) e_t65 ?_
  obtain ⟨M68, e_M68, h⟩ := q_bind h
  refine aw_pti d_Work_copy_68 fl_Work_40 rfl rfl e_M68 ?_
  cases h
  exact aw_vreturn d_Work_copy_71 rfl (Nat.le_of_ble_eq_true rfl) (Nat.le_of_ble_eq_true rfl) ⟨rfl, rfl⟩
def y_Work_hasFlight : MethodName := ⟨"CrewOffice$Work", "hasFlight", "(I)Z"⟩
def u_Work_hasFlight : am_U := ("CrewOffice$Work", "hasFlight", prog_10_method_3_code, 2, (some .boolean), [])
def R_Work_hasFlight : Room := { frames := 0, cells := 0, slots := 0, locals := 0 }
theorem d_Work_hasFlight_0 : decode u_Work_hasFlight.2.2.1 0 = .ok (.aload_n 0, 1) := by decide +kernel
theorem d_Work_hasFlight_1 : decode u_Work_hasFlight.2.2.1 1 = .ok (.getfield 40, 3) := by decide +kernel
theorem d_Work_hasFlight_4 : decode u_Work_hasFlight.2.2.1 4 = .ok (.iconst 1, 1) := by decide +kernel
theorem d_Work_hasFlight_5 : decode u_Work_hasFlight.2.2.1 5 = .ok (.iload_n 1, 1) := by decide +kernel
theorem d_Work_hasFlight_6 : decode u_Work_hasFlight.2.2.1 6 = .ok (.ishl, 1) := by decide +kernel
theorem d_Work_hasFlight_7 : decode u_Work_hasFlight.2.2.1 7 = .ok (.iand, 1) := by decide +kernel
theorem d_Work_hasFlight_8 : decode u_Work_hasFlight.2.2.1 8 = .ok (.ifCond .eq 7, 3) := by decide +kernel
theorem d_Work_hasFlight_11 : decode u_Work_hasFlight.2.2.1 11 = .ok (.iconst 1, 1) := by decide +kernel
theorem d_Work_hasFlight_12 : decode u_Work_hasFlight.2.2.1 12 = .ok (.goto 4, 3) := by decide +kernel
theorem d_Work_hasFlight_15 : decode u_Work_hasFlight.2.2.1 15 = .ok (.iconst 0, 1) := by decide +kernel
theorem d_Work_hasFlight_16 : decode u_Work_hasFlight.2.2.1 16 = .ok (.ireturn, 1) := by decide +kernel
theorem w_Work_hasFlight : am_code y_Work_hasFlight u_Work_hasFlight ∈ am_ws := am_mem (List.mem_of_getElem? (i := 941) (by decide +kernel)) rfl
def e_Work_hasFlight (M : am_M) (a0 : Nat) (a1 : Int32) : Option (Int32) := (q_gti M a0 4 7).bind (fun t1 => if (t1 &&& ((1 : Int32) <<< (a1 &&& 31))) = 0 then (some (0 : Int32)) else (some (1 : Int32)))
def f_Work_hasFlight (M : am_M) (a0 : Nat) (a1 : Int32) : Option (Int32) := e_Work_hasFlight M a0 a1
set_option maxHeartbeats 4000000 in
theorem mt_Work_hasFlight {M : am_M} {a0 : Nat} {a1 : Int32} {res : Int32} (h : f_Work_hasFlight M a0 a1 = some res) : AMet y_Work_hasFlight u_Work_hasFlight R_Work_hasFlight [.ref a0, .int a1] M (fun r M2 => r = .inl (some (.int res)) ∧ M2 = M) := by
  refine am_met (by decide +kernel) w_Work_hasFlight rfl rfl (Nat.le_of_ble_eq_true rfl) ?_
  show AW u_Work_hasFlight R_Work_hasFlight 0 0 0 [(0, .ref a0), (1, .int a1)] [] M (fun r M2 => r = .inl (some (.int res)) ∧ M2 = M)
  unfold f_Work_hasFlight at h
  unfold e_Work_hasFlight at h
  refine aw_aload_n d_Work_hasFlight_0 rfl rfl ?_
  obtain ⟨t1, e_t1, h⟩ := q_bind h
  refine aw_gti d_Work_hasFlight_1 fl_Work_40 (Or.inl rfl) e_t1 ?_
  refine aw_iconst (v := 1) d_Work_hasFlight_4 (by decide) ?_
  refine aw_iload_n d_Work_hasFlight_5 rfl rfl ?_
  refine aw_ishl d_Work_hasFlight_6 ?_
  refine aw_iand d_Work_hasFlight_7 ?_
  refine aw_if_eq (tgt := 15) d_Work_hasFlight_8 (by decide) (fun hc => ?_) (fun hc => ?_)
  · rw [if_pos hc] at h
    refine aw_iconst (v := 0) d_Work_hasFlight_15 (by decide) ?_
    cases h
    exact aw_zreturn d_Work_hasFlight_16 rfl (by decide) (Nat.le_of_ble_eq_true rfl) (Nat.le_of_ble_eq_true rfl) ⟨rfl, rfl⟩
  · rw [if_neg hc] at h
    refine aw_iconst (v := 1) d_Work_hasFlight_11 (by decide) ?_
    refine aw_goto (tgt := 16) d_Work_hasFlight_12 (by decide) ?_
    cases h
    exact aw_zreturn d_Work_hasFlight_16 rfl (by decide) (Nat.le_of_ble_eq_true rfl) (Nat.le_of_ble_eq_true rfl) ⟨rfl, rfl⟩
def y_Work_touchesDay : MethodName := ⟨"CrewOffice$Work", "touchesDay", "(I)Z"⟩
def u_Work_touchesDay : am_U := ("CrewOffice$Work", "touchesDay", prog_10_method_4_code, 2, (some .boolean), [])
def R_Work_touchesDay : Room := { frames := 0, cells := 0, slots := 0, locals := 0 }
theorem d_Work_touchesDay_0 : decode u_Work_touchesDay.2.2.1 0 = .ok (.aload_n 0, 1) := by decide +kernel
theorem d_Work_touchesDay_1 : decode u_Work_touchesDay.2.2.1 1 = .ok (.getfield 28, 3) := by decide +kernel
theorem d_Work_touchesDay_4 : decode u_Work_touchesDay.2.2.1 4 = .ok (.iload_n 1, 1) := by decide +kernel
theorem d_Work_touchesDay_5 : decode u_Work_touchesDay.2.2.1 5 = .ok (.iconst 1, 1) := by decide +kernel
theorem d_Work_touchesDay_6 : decode u_Work_touchesDay.2.2.1 6 = .ok (.iadd, 1) := by decide +kernel
theorem d_Work_touchesDay_7 : decode u_Work_touchesDay.2.2.1 7 = .ok (.sipush 1440, 3) := by decide +kernel
theorem d_Work_touchesDay_10 : decode u_Work_touchesDay.2.2.1 10 = .ok (.imul, 1) := by decide +kernel
theorem d_Work_touchesDay_11 : decode u_Work_touchesDay.2.2.1 11 = .ok (.if_icmp .ge 19, 3) := by decide +kernel
theorem d_Work_touchesDay_14 : decode u_Work_touchesDay.2.2.1 14 = .ok (.iload_n 1, 1) := by decide +kernel
theorem d_Work_touchesDay_15 : decode u_Work_touchesDay.2.2.1 15 = .ok (.sipush 1440, 3) := by decide +kernel
theorem d_Work_touchesDay_18 : decode u_Work_touchesDay.2.2.1 18 = .ok (.imul, 1) := by decide +kernel
theorem d_Work_touchesDay_19 : decode u_Work_touchesDay.2.2.1 19 = .ok (.aload_n 0, 1) := by decide +kernel
theorem d_Work_touchesDay_20 : decode u_Work_touchesDay.2.2.1 20 = .ok (.getfield 31, 3) := by decide +kernel
theorem d_Work_touchesDay_23 : decode u_Work_touchesDay.2.2.1 23 = .ok (.if_icmp .ge 7, 3) := by decide +kernel
theorem d_Work_touchesDay_26 : decode u_Work_touchesDay.2.2.1 26 = .ok (.iconst 1, 1) := by decide +kernel
theorem d_Work_touchesDay_27 : decode u_Work_touchesDay.2.2.1 27 = .ok (.goto 4, 3) := by decide +kernel
theorem d_Work_touchesDay_30 : decode u_Work_touchesDay.2.2.1 30 = .ok (.iconst 0, 1) := by decide +kernel
theorem d_Work_touchesDay_31 : decode u_Work_touchesDay.2.2.1 31 = .ok (.ireturn, 1) := by decide +kernel
theorem w_Work_touchesDay : am_code y_Work_touchesDay u_Work_touchesDay ∈ am_ws := am_mem (List.mem_of_getElem? (i := 949) (by decide +kernel)) rfl
def e_Work_touchesDay (M : am_M) (a0 : Nat) (a1 : Int32) : Option (Int32) := (q_gti M a0 4 3).bind (fun t1 => if ((a1 + (1 : Int32)) * (1440 : Int32)) ≤ t1 then (some (0 : Int32)) else ((q_gti M a0 4 4).bind (fun t20 => if t20 ≤ (a1 * (1440 : Int32)) then (some (0 : Int32)) else (some (1 : Int32)))))
def f_Work_touchesDay (M : am_M) (a0 : Nat) (a1 : Int32) : Option (Int32) := e_Work_touchesDay M a0 a1
set_option maxHeartbeats 4000000 in
theorem mt_Work_touchesDay {M : am_M} {a0 : Nat} {a1 : Int32} {res : Int32} (h : f_Work_touchesDay M a0 a1 = some res) : AMet y_Work_touchesDay u_Work_touchesDay R_Work_touchesDay [.ref a0, .int a1] M (fun r M2 => r = .inl (some (.int res)) ∧ M2 = M) := by
  refine am_met (by decide +kernel) w_Work_touchesDay rfl rfl (Nat.le_of_ble_eq_true rfl) ?_
  show AW u_Work_touchesDay R_Work_touchesDay 0 0 0 [(0, .ref a0), (1, .int a1)] [] M (fun r M2 => r = .inl (some (.int res)) ∧ M2 = M)
  unfold f_Work_touchesDay at h
  unfold e_Work_touchesDay at h
  refine aw_aload_n d_Work_touchesDay_0 rfl rfl ?_
  obtain ⟨t1, e_t1, h⟩ := q_bind h
  refine aw_gti d_Work_touchesDay_1 fl_Work_28 (Or.inl rfl) e_t1 ?_
  refine aw_iload_n d_Work_touchesDay_4 rfl rfl ?_
  refine aw_iconst (v := 1) d_Work_touchesDay_5 (by decide) ?_
  refine aw_iadd d_Work_touchesDay_6 ?_
  refine aw_sipush (v := 1440) d_Work_touchesDay_7 (by decide) ?_
  refine aw_imul d_Work_touchesDay_10 ?_
  refine aw_icmp_ge (tgt := 30) d_Work_touchesDay_11 (by decide) (fun hc => ?_) (fun hc => ?_)
  · rw [if_pos hc] at h
    refine aw_iconst (v := 0) d_Work_touchesDay_30 (by decide) ?_
    cases h
    exact aw_zreturn d_Work_touchesDay_31 rfl (by decide) (Nat.le_of_ble_eq_true rfl) (Nat.le_of_ble_eq_true rfl) ⟨rfl, rfl⟩
  · rw [if_neg hc] at h
    refine aw_iload_n d_Work_touchesDay_14 rfl rfl ?_
    refine aw_sipush (v := 1440) d_Work_touchesDay_15 (by decide) ?_
    refine aw_imul d_Work_touchesDay_18 ?_
    refine aw_aload_n d_Work_touchesDay_19 rfl rfl ?_
    obtain ⟨t20, e_t20, h⟩ := q_bind h
    refine aw_gti d_Work_touchesDay_20 fl_Work_31 (Or.inl rfl) e_t20 ?_
    refine aw_icmp_ge (tgt := 30) d_Work_touchesDay_23 (by decide) (fun hc => ?_) (fun hc => ?_)
    · rw [if_pos hc] at h
      refine aw_iconst (v := 0) d_Work_touchesDay_30 (by decide) ?_
      cases h
      exact aw_zreturn d_Work_touchesDay_31 rfl (by decide) (Nat.le_of_ble_eq_true rfl) (Nat.le_of_ble_eq_true rfl) ⟨rfl, rfl⟩
    · rw [if_neg hc] at h
      refine aw_iconst (v := 1) d_Work_touchesDay_26 (by decide) ?_
      refine aw_goto (tgt := 31) d_Work_touchesDay_27 (by decide) ?_
      cases h
      exact aw_zreturn d_Work_touchesDay_31 rfl (by decide) (Nat.le_of_ble_eq_true rfl) (Nat.le_of_ble_eq_true rfl) ⟨rfl, rfl⟩
