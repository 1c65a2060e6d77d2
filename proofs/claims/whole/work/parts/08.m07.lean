-- Choice_placeOf Clock_set Clock_localOf Clock_isNight Leg_set Leg_shift Listing_forget Listing_canBeMended Member_set Member_addBid Member_isOff Member_leastOwnBroken Plan_flightsThere Plan_countMembers Plan_isBase Plan_canFollow Sharing_bitOf Sharing_workAt
def y_Choice_placeOf : MethodName := ⟨"CrewOffice$Choice", "placeOf", "(I)I"⟩
def u_Choice_placeOf : am_U := ("CrewOffice$Choice", "placeOf", prog_2_method_8_code, 3, (some .int), [])
def R_Choice_placeOf : Room := { frames := 0, cells := 0, slots := 0, locals := 0 }
theorem d_Choice_placeOf_0 : decode u_Choice_placeOf.2.2.1 0 = .ok (.iconst 0, 1) := by decide +kernel
theorem d_Choice_placeOf_1 : decode u_Choice_placeOf.2.2.1 1 = .ok (.istore_n 2, 1) := by decide +kernel
theorem d_Choice_placeOf_2 : decode u_Choice_placeOf.2.2.1 2 = .ok (.iload_n 2, 1) := by decide +kernel
theorem d_Choice_placeOf_3 : decode u_Choice_placeOf.2.2.1 3 = .ok (.aload_n 0, 1) := by decide +kernel
theorem d_Choice_placeOf_4 : decode u_Choice_placeOf.2.2.1 4 = .ok (.getfield 15, 3) := by decide +kernel
theorem d_Choice_placeOf_7 : decode u_Choice_placeOf.2.2.1 7 = .ok (.if_icmp .ge 21, 3) := by decide +kernel
theorem d_Choice_placeOf_10 : decode u_Choice_placeOf.2.2.1 10 = .ok (.aload_n 0, 1) := by decide +kernel
theorem d_Choice_placeOf_11 : decode u_Choice_placeOf.2.2.1 11 = .ok (.getfield 9, 3) := by decide +kernel
theorem d_Choice_placeOf_14 : decode u_Choice_placeOf.2.2.1 14 = .ok (.iload_n 2, 1) := by decide +kernel
theorem d_Choice_placeOf_15 : decode u_Choice_placeOf.2.2.1 15 = .ok (.iaload, 1) := by decide +kernel
theorem d_Choice_placeOf_16 : decode u_Choice_placeOf.2.2.1 16 = .ok (.iload_n 1, 1) := by decide +kernel
theorem d_Choice_placeOf_17 : decode u_Choice_placeOf.2.2.1 17 = .ok (.if_icmp .ne 5, 3) := by decide +kernel
theorem d_Choice_placeOf_20 : decode u_Choice_placeOf.2.2.1 20 = .ok (.iload_n 2, 1) := by decide +kernel
theorem d_Choice_placeOf_21 : decode u_Choice_placeOf.2.2.1 21 = .ok (.ireturn, 1) := by decide +kernel
theorem d_Choice_placeOf_22 : decode u_Choice_placeOf.2.2.1 22 = .ok (.iinc 2 1, 3) := by decide +kernel
theorem d_Choice_placeOf_25 : decode u_Choice_placeOf.2.2.1 25 = .ok (.goto (-23), 3) := by decide +kernel
theorem d_Choice_placeOf_28 : decode u_Choice_placeOf.2.2.1 28 = .ok (.iconst (-1), 1) := by decide +kernel
theorem d_Choice_placeOf_29 : decode u_Choice_placeOf.2.2.1 29 = .ok (.ireturn, 1) := by decide +kernel
theorem w_Choice_placeOf : am_code y_Choice_placeOf u_Choice_placeOf ∈ am_ws := am_mem (List.mem_of_getElem? (i := 871) (by decide +kernel)) rfl
def a_Choice_placeOf_0 (rc : Nat → Nat → Int32 → Int32 → am_M → Option (Int32)) (r0 : Nat) (x1 : Int32) (x2 : Int32) (M : am_M) : Option (Int32) := (q_gti M r0 7 3).bind (fun t4 => if t4 ≤ x2 then (some (-1 : Int32)) else ((q_gtr M r0 7 2).bind (fun t11 => (q_ldi M t11 x2).bind (fun t15 => if t15 = x1 then (some x2) else (rc 0 r0 x1 (x2 + (1 : Int32)) M)))))
def g_Choice_placeOf : Nat → Nat → Nat → Int32 → Int32 → am_M → Option (Int32)
  | 0, _, _, _, _, _ => none
  | F + 1, 0, r0, x1, x2, M => a_Choice_placeOf_0 (g_Choice_placeOf F) r0 x1 x2 M
  | _ + 1, _ + 1, _, _, _, _ => none
def e_Choice_placeOf (rc : Nat → Nat → Int32 → Int32 → am_M → Option (Int32)) (M : am_M) (a0 : Nat) (a1 : Int32) : Option (Int32) := rc 0 a0 a1 (0 : Int32) M
def f_Choice_placeOf (M : am_M) (a0 : Nat) (a1 : Int32) : Option (Int32) := e_Choice_placeOf (g_Choice_placeOf 1000000000) M a0 a1
set_option maxHeartbeats 4000000 in
theorem s_Choice_placeOf_0 {rc : Nat → Nat → Int32 → Int32 → am_M → Option (Int32)} {res : Int32} (ih_0 : ∀ (r0 : Nat) (x1 : Int32) (x2 : Int32) (M : am_M), rc 0 r0 x1 x2 M = some res → AW u_Choice_placeOf R_Choice_placeOf 0 0 2 [(0, .ref r0), (1, .int x1), (2, .int x2)] [] M (fun r M2 => r = .inl (some (.int res)) ∧ M2 = M)) : ∀ (r0 : Nat) (x1 : Int32) (x2 : Int32) (M : am_M), a_Choice_placeOf_0 rc r0 x1 x2 M = some res → AW u_Choice_placeOf R_Choice_placeOf 0 0 2 [(0, .ref r0), (1, .int x1), (2, .int x2)] [] M (fun r M2 => r = .inl (some (.int res)) ∧ M2 = M) := by
  intro r0 x1 x2 M h
  unfold a_Choice_placeOf_0 at h
  refine aw_iload_n d_Choice_placeOf_2 rfl rfl ?_
  refine aw_aload_n d_Choice_placeOf_3 rfl rfl ?_
  obtain ⟨t4, e_t4, h⟩ := q_bind h
  refine aw_gti d_Choice_placeOf_4 fl_Choice_15 (Or.inl rfl) e_t4 ?_
  refine aw_icmp_ge (tgt := 28) d_Choice_placeOf_7 (by decide) (fun hc => ?_) (fun hc => ?_)
  · rw [if_pos hc] at h
    refine aw_iconst (v := -1) d_Choice_placeOf_28 (by decide) ?_
    cases h
    exact aw_ireturn d_Choice_placeOf_29 rfl (Nat.le_of_ble_eq_true rfl) (Nat.le_of_ble_eq_true rfl) ⟨rfl, rfl⟩
  · rw [if_neg hc] at h
    refine aw_aload_n d_Choice_placeOf_10 rfl rfl ?_
    obtain ⟨t11, e_t11, h⟩ := q_bind h
    refine aw_gtr d_Choice_placeOf_11 fl_Choice_9 (Or.inr ⟨_, rfl⟩) e_t11 ?_
    refine aw_iload_n d_Choice_placeOf_14 rfl rfl ?_
    obtain ⟨t15, e_t15, h⟩ := q_bind h
    refine aw_ldi d_Choice_placeOf_15 e_t15 ?_
    refine aw_iload_n d_Choice_placeOf_16 rfl rfl ?_
    refine aw_icmp_ne (tgt := 22) d_Choice_placeOf_17 (by decide) (fun hc => ?_) (fun hc => ?_)
    · rw [if_neg hc] at h
      refine aw_iinc (v := (x2 + (1 : Int32))) (ls' := [(2, .int _), (0, .ref _), (1, .int _)]) d_Choice_placeOf_22 rfl rfl (Nat.le_of_ble_eq_true rfl) rfl ?_
      refine aw_goto (tgt := 2) d_Choice_placeOf_25 (by decide) ?_
      exact aw_pick [1, 2, 0] rfl (ih_0 _ _ _ _ h)
    · rw [if_pos hc] at h
      refine aw_iload_n d_Choice_placeOf_20 rfl rfl ?_
      cases h
      exact aw_ireturn d_Choice_placeOf_21 rfl (Nat.le_of_ble_eq_true rfl) (Nat.le_of_ble_eq_true rfl) ⟨rfl, rfl⟩
theorem l_Choice_placeOf {res : Int32} : ∀ F : Nat, (∀ (r0 : Nat) (x1 : Int32) (x2 : Int32) (M : am_M), g_Choice_placeOf F 0 r0 x1 x2 M = some res → AW u_Choice_placeOf R_Choice_placeOf 0 0 2 [(0, .ref r0), (1, .int x1), (2, .int x2)] [] M (fun r M2 => r = .inl (some (.int res)) ∧ M2 = M)) := by
  intro F
  induction F with
  | zero => exact fun _ _ _ _  h => (by cases h)
  | succ F ih =>
    have ih0 := ih
    exact s_Choice_placeOf_0 ih0
set_option maxHeartbeats 4000000 in
theorem mt_Choice_placeOf {M : am_M} {a0 : Nat} {a1 : Int32} {res : Int32} (h : f_Choice_placeOf M a0 a1 = some res) : AMet y_Choice_placeOf u_Choice_placeOf R_Choice_placeOf [.ref a0, .int a1] M (fun r M2 => r = .inl (some (.int res)) ∧ M2 = M) := by
  refine am_met (by decide +kernel) w_Choice_placeOf rfl rfl (Nat.le_of_ble_eq_true rfl) ?_
  show AW u_Choice_placeOf R_Choice_placeOf 0 0 0 [(0, .ref a0), (1, .int a1)] [] M (fun r M2 => r = .inl (some (.int res)) ∧ M2 = M)
  have ih_0 := (l_Choice_placeOf (res := res) 1000000000)
  unfold f_Choice_placeOf at h
  unfold e_Choice_placeOf at h
  generalize g_Choice_placeOf 1000000000 = rc at h ih_0
  refine aw_iconst (v := 0) d_Choice_placeOf_0 (by decide) ?_
  refine aw_istore_n (ls' := [(2, .int _), (0, .ref _), (1, .int _)]) d_Choice_placeOf_1 rfl (Nat.le_of_ble_eq_true rfl) rfl ?_
  exact aw_pick [1, 2, 0] rfl (ih_0 _ _ _ _ h)
def y_Clock_set : MethodName := ⟨"CrewOffice$Clock", "set", "(III)V"⟩
def u_Clock_set : am_U := ("CrewOffice$Clock", "set", prog_3_method_2_code, 4, none, [])
def R_Clock_set : Room := { frames := 0, cells := 0, slots := 0, locals := 0 }
theorem d_Clock_set_0 : decode u_Clock_set.2.2.1 0 = .ok (.aload_n 0, 1) := by decide +kernel
theorem d_Clock_set_1 : decode u_Clock_set.2.2.1 1 = .ok (.iload_n 1, 1) := by decide +kernel
theorem d_Clock_set_2 : decode u_Clock_set.2.2.1 2 = .ok (.putfield 9, 3) := by decide +kernel
theorem d_Clock_set_5 : decode u_Clock_set.2.2.1 5 = .ok (.aload_n 0, 1) := by decide +kernel
theorem d_Clock_set_6 : decode u_Clock_set.2.2.1 6 = .ok (.iload_n 2, 1) := by decide +kernel
theorem d_Clock_set_7 : decode u_Clock_set.2.2.1 7 = .ok (.putfield 15, 3) := by decide +kernel
theorem d_Clock_set_10 : decode u_Clock_set.2.2.1 10 = .ok (.aload_n 0, 1) := by decide +kernel
theorem d_Clock_set_11 : decode u_Clock_set.2.2.1 11 = .ok (.iload_n 3, 1) := by decide +kernel
theorem d_Clock_set_12 : decode u_Clock_set.2.2.1 12 = .ok (.putfield 18, 3) := by decide +kernel
theorem d_Clock_set_15 : decode u_Clock_set.2.2.1 15 = .ok (.return_, 1) := by decide +kernel
theorem w_Clock_set : am_code y_Clock_set u_Clock_set ∈ am_ws := am_mem (List.mem_of_getElem? (i := 712) (by decide +kernel)) rfl
def e_Clock_set (M : am_M) (a0 : Nat) (a1 : Int32) (a2 : Int32) (a3 : Int32) : Option (Unit × am_M) := (q_pti M a0 0 0 a1).bind (fun M2 => (q_pti M2 a0 0 1 a2).bind (fun M7 => (q_pti M7 a0 0 2 a3).bind (fun M12 => some ((), M12))))
def f_Clock_set (M : am_M) (a0 : Nat) (a1 : Int32) (a2 : Int32) (a3 : Int32) : Option (Unit × am_M) := e_Clock_set M a0 a1 a2 a3
theorem fl_Clock_9 : am_fl "CrewOffice$Clock" 9 0 0 := ⟨by decide, by decide, List.mem_of_getElem? (i := 111) (by decide +kernel)⟩
theorem fl_Clock_15 : am_fl "CrewOffice$Clock" 15 0 1 := ⟨by decide, by decide, List.mem_of_getElem? (i := 112) (by decide +kernel)⟩
theorem fl_Clock_18 : am_fl "CrewOffice$Clock" 18 0 2 := ⟨by decide, by decide, List.mem_of_getElem? (i := 113) (by decide +kernel)⟩
set_option maxHeartbeats 4000000 in
theorem mt_Clock_set {M : am_M} {a0 : Nat} {a1 : Int32} {a2 : Int32} {a3 : Int32} {res : Unit} {M' : am_M} (h : f_Clock_set M a0 a1 a2 a3 = some (res, M')) : AMet y_Clock_set u_Clock_set R_Clock_set [.ref a0, .int a1, .int a2, .int a3] M (fun r M2 => r = .inl none ∧ M2 = M') := by
  refine am_met (by decide +kernel) w_Clock_set rfl rfl (Nat.le_of_ble_eq_true rfl) ?_
  show AW u_Clock_set R_Clock_set 0 0 0 [(0, .ref a0), (1, .int a1), (2, .int a2), (3, .int a3)] [] M (fun r M2 => r = .inl none ∧ M2 = M')
  unfold f_Clock_set at h
  unfold e_Clock_set at h
  refine aw_aload_n d_Clock_set_0 rfl rfl ?_
  refine aw_iload_n d_Clock_set_1 rfl rfl ?_
  obtain ⟨M2, e_M2, h⟩ := q_bind h
  refine aw_pti d_Clock_set_2 fl_Clock_9 rfl rfl e_M2 ?_
  refine aw_aload_n d_Clock_set_5 rfl rfl ?_
  refine aw_iload_n d_Clock_set_6 rfl rfl ?_
  obtain ⟨M7, e_M7, h⟩ := q_bind h
  refine aw_pti d_Clock_set_7 fl_Clock_15 rfl rfl e_M7 ?_
  refine aw_aload_n d_Clock_set_10 rfl rfl ?_
  refine aw_iload_n d_Clock_set_11 rfl rfl ?_
  obtain ⟨M12, e_M12, h⟩ := q_bind h
  refine aw_pti d_Clock_set_12 fl_Clock_18 rfl rfl e_M12 ?_
  cases h
  exact aw_vreturn d_Clock_set_15 rfl (Nat.le_of_ble_eq_true rfl) (Nat.le_of_ble_eq_true rfl) ⟨rfl, rfl⟩
def y_Clock_localOf : MethodName := ⟨"CrewOffice$Clock", "localOf", "(I)I"⟩
def u_Clock_localOf : am_U := ("CrewOffice$Clock", "localOf", prog_3_method_3_code, 2, (some .int), [])
def R_Clock_localOf : Room := { frames := 0, cells := 0, slots := 0, locals := 0 }
theorem d_Clock_localOf_0 : decode u_Clock_localOf.2.2.1 0 = .ok (.iload_n 1, 1) := by decide +kernel
theorem d_Clock_localOf_1 : decode u_Clock_localOf.2.2.1 1 = .ok (.iload_n 1, 1) := by decide +kernel
theorem d_Clock_localOf_2 : decode u_Clock_localOf.2.2.1 2 = .ok (.aload_n 0, 1) := by decide +kernel
theorem d_Clock_localOf_3 : decode u_Clock_localOf.2.2.1 3 = .ok (.getfield 15, 3) := by decide +kernel
theorem d_Clock_localOf_6 : decode u_Clock_localOf.2.2.1 6 = .ok (.if_icmp .ge 10, 3) := by decide +kernel
theorem d_Clock_localOf_9 : decode u_Clock_localOf.2.2.1 9 = .ok (.aload_n 0, 1) := by decide +kernel
theorem d_Clock_localOf_10 : decode u_Clock_localOf.2.2.1 10 = .ok (.getfield 9, 3) := by decide +kernel
theorem d_Clock_localOf_13 : decode u_Clock_localOf.2.2.1 13 = .ok (.goto 7, 3) := by decide +kernel
theorem d_Clock_localOf_16 : decode u_Clock_localOf.2.2.1 16 = .ok (.aload_n 0, 1) := by decide +kernel
theorem d_Clock_localOf_17 : decode u_Clock_localOf.2.2.1 17 = .ok (.getfield 18, 3) := by decide +kernel
theorem d_Clock_localOf_20 : decode u_Clock_localOf.2.2.1 20 = .ok (.iadd, 1) := by decide +kernel
theorem d_Clock_localOf_21 : decode u_Clock_localOf.2.2.1 21 = .ok (.ireturn, 1) := by decide +kernel
theorem w_Clock_localOf : am_code y_Clock_localOf u_Clock_localOf ∈ am_ws := am_mem (List.mem_of_getElem? (i := 539) (by decide +kernel)) rfl
def e_Clock_localOf (M : am_M) (a0 : Nat) (a1 : Int32) : Option (Int32) := (q_gti M a0 0 1).bind (fun t3 => if t3 ≤ a1 then ((q_gti M a0 0 2).bind (fun t17 => some (a1 + t17))) else ((q_gti M a0 0 0).bind (fun t10 => some (a1 + t10))))
def f_Clock_localOf (M : am_M) (a0 : Nat) (a1 : Int32) : Option (Int32) := e_Clock_localOf M a0 a1
set_option maxHeartbeats 4000000 in
theorem mt_Clock_localOf {M : am_M} {a0 : Nat} {a1 : Int32} {res : Int32} (h : f_Clock_localOf M a0 a1 = some res) : AMet y_Clock_localOf u_Clock_localOf R_Clock_localOf [.ref a0, .int a1] M (fun r M2 => r = .inl (some (.int res)) ∧ M2 = M) := by
  refine am_met (by decide +kernel) w_Clock_localOf rfl rfl (Nat.le_of_ble_eq_true rfl) ?_
  show AW u_Clock_localOf R_Clock_localOf 0 0 0 [(0, .ref a0), (1, .int a1)] [] M (fun r M2 => r = .inl (some (.int res)) ∧ M2 = M)
  unfold f_Clock_localOf at h
  unfold e_Clock_localOf at h
  refine aw_iload_n d_Clock_localOf_0 rfl rfl ?_
  refine aw_iload_n d_Clock_localOf_1 rfl rfl ?_
  refine aw_aload_n d_Clock_localOf_2 rfl rfl ?_
  obtain ⟨t3, e_t3, h⟩ := q_bind h
  refine aw_gti d_Clock_localOf_3 fl_Clock_15 (Or.inl rfl) e_t3 ?_
  refine aw_icmp_ge (tgt := 16) d_Clock_localOf_6 (by decide) (fun hc => ?_) (fun hc => ?_)
  · rw [if_pos hc] at h
    refine aw_aload_n d_Clock_localOf_16 rfl rfl ?_
    obtain ⟨t17, e_t17, h⟩ := q_bind h
    refine aw_gti d_Clock_localOf_17 fl_Clock_18 (Or.inl rfl) e_t17 ?_
    refine aw_iadd d_Clock_localOf_20 ?_
    cases h
    exact aw_ireturn d_Clock_localOf_21 rfl (Nat.le_of_ble_eq_true rfl) (Nat.le_of_ble_eq_true rfl) ⟨rfl, rfl⟩
  · rw [if_neg hc] at h
    refine aw_aload_n d_Clock_localOf_9 rfl rfl ?_
    obtain ⟨t10, e_t10, h⟩ := q_bind h
    refine aw_gti d_Clock_localOf_10 fl_Clock_9 (Or.inl rfl) e_t10 ?_
    refine aw_goto (tgt := 20) d_Clock_localOf_13 (by decide) ?_
    refine aw_iadd d_Clock_localOf_20 ?_
    cases h
    exact aw_ireturn d_Clock_localOf_21 rfl (Nat.le_of_ble_eq_true rfl) (Nat.le_of_ble_eq_true rfl) ⟨rfl, rfl⟩
def y_Clock_isNight : MethodName := ⟨"CrewOffice$Clock", "isNight", "(I)Z"⟩
def u_Clock_isNight : am_U := ("CrewOffice$Clock", "isNight", prog_3_method_7_code, 1, (some .boolean), [])
def R_Clock_isNight : Room := { frames := 0, cells := 0, slots := 0, locals := 0 }
theorem d_Clock_isNight_0 : decode u_Clock_isNight.2.2.1 0 = .ok (.iload_n 0, 1) := by decide +kernel
theorem d_Clock_isNight_1 : decode u_Clock_isNight.2.2.1 1 = .ok (.sipush 360, 3) := by decide +kernel
theorem d_Clock_isNight_4 : decode u_Clock_isNight.2.2.1 4 = .ok (.if_icmp .lt 10, 3) := by decide +kernel
theorem d_Clock_isNight_7 : decode u_Clock_isNight.2.2.1 7 = .ok (.iload_n 0, 1) := by decide +kernel
theorem d_Clock_isNight_8 : decode u_Clock_isNight.2.2.1 8 = .ok (.sipush 1320, 3) := by decide +kernel
theorem d_Clock_isNight_11 : decode u_Clock_isNight.2.2.1 11 = .ok (.if_icmp .lt 7, 3) := by decide +kernel
theorem d_Clock_isNight_14 : decode u_Clock_isNight.2.2.1 14 = .ok (.iconst 1, 1) := by decide +kernel
theorem d_Clock_isNight_15 : decode u_Clock_isNight.2.2.1 15 = .ok (.goto 4, 3) := by decide +kernel
theorem d_Clock_isNight_18 : decode u_Clock_isNight.2.2.1 18 = .ok (.iconst 0, 1) := by decide +kernel
theorem d_Clock_isNight_19 : decode u_Clock_isNight.2.2.1 19 = .ok (.ireturn, 1) := by decide +kernel
theorem w_Clock_isNight : am_code y_Clock_isNight u_Clock_isNight ∈ am_ws := am_mem (List.mem_of_getElem? (i := 569) (by decide +kernel)) rfl
def a_Clock_isNight_0 (rc : Nat → am_M → Option (Int32))  (M : am_M) : Option (Int32) := some (1 : Int32)
def g_Clock_isNight : Nat → Nat → am_M → Option (Int32)
  | 0, _, _ => none
  | F + 1, 0, M => a_Clock_isNight_0 (g_Clock_isNight F) M
  | _ + 1, _ + 1, _ => none
def e_Clock_isNight (rc : Nat → am_M → Option (Int32)) (M : am_M) (a0 : Int32) : Option (Int32) := if a0 < (360 : Int32) then (rc 0  M) else (if a0 < (1320 : Int32) then (some (0 : Int32)) else (rc 0  M))
def f_Clock_isNight (M : am_M) (a0 : Int32) : Option (Int32) := e_Clock_isNight (g_Clock_isNight 1000000000) M a0
set_option maxHeartbeats 4000000 in
theorem s_Clock_isNight_0 {rc : Nat → am_M → Option (Int32)} {res : Int32} (ih_0 : ∀  (M : am_M), rc 0  M = some res → AW u_Clock_isNight R_Clock_isNight 0 0 14 [] [] M (fun r M2 => r = .inl (some (.int res)) ∧ M2 = M)) : ∀  (M : am_M), a_Clock_isNight_0 rc  M = some res → AW u_Clock_isNight R_Clock_isNight 0 0 14 [] [] M (fun r M2 => r = .inl (some (.int res)) ∧ M2 = M) := by
  intro  M h
  unfold a_Clock_isNight_0 at h
  refine aw_iconst (v := 1) d_Clock_isNight_14 (by decide) ?_
  refine aw_goto (tgt := 19) d_Clock_isNight_15 (by decide) ?_
  cases h
  exact aw_zreturn d_Clock_isNight_19 rfl (by decide) (Nat.le_of_ble_eq_true rfl) (Nat.le_of_ble_eq_true rfl) ⟨rfl, rfl⟩
theorem l_Clock_isNight {res : Int32} : ∀ F : Nat, (∀  (M : am_M), g_Clock_isNight F 0  M = some res → AW u_Clock_isNight R_Clock_isNight 0 0 14 [] [] M (fun r M2 => r = .inl (some (.int res)) ∧ M2 = M)) := by
  intro F
  induction F with
  | zero => exact fun _  h => (by cases h)
  | succ F ih =>
    have ih0 := ih
    exact s_Clock_isNight_0 ih0
set_option maxHeartbeats 4000000 in
theorem mt_Clock_isNight {M : am_M} {a0 : Int32} {res : Int32} (h : f_Clock_isNight M a0 = some res) : AMet y_Clock_isNight u_Clock_isNight R_Clock_isNight [.int a0] M (fun r M2 => r = .inl (some (.int res)) ∧ M2 = M) := by
  refine am_met (by decide +kernel) w_Clock_isNight rfl rfl (Nat.le_of_ble_eq_true rfl) ?_
  show AW u_Clock_isNight R_Clock_isNight 0 0 0 [(0, .int a0)] [] M (fun r M2 => r = .inl (some (.int res)) ∧ M2 = M)
  have ih_0 := (l_Clock_isNight (res := res) 1000000000)
  unfold f_Clock_isNight at h
  unfold e_Clock_isNight at h
  generalize g_Clock_isNight 1000000000 = rc at h ih_0
  refine aw_iload_n d_Clock_isNight_0 rfl rfl ?_
  refine aw_sipush (v := 360) d_Clock_isNight_1 (by decide) ?_
  refine aw_icmp_lt (tgt := 14) d_Clock_isNight_4 (by decide) (fun hc => ?_) (fun hc => ?_)
  · rw [if_pos hc] at h
    exact aw_pick [] rfl (ih_0 _ h)
  · rw [if_neg hc] at h
    refine aw_iload_n d_Clock_isNight_7 rfl rfl ?_
    refine aw_sipush (v := 1320) d_Clock_isNight_8 (by decide) ?_
    refine aw_icmp_lt (tgt := 18) d_Clock_isNight_11 (by decide) (fun hc => ?_) (fun hc => ?_)
    · rw [if_pos hc] at h
      refine aw_iconst (v := 0) d_Clock_isNight_18 (by decide) ?_
      cases h
      exact aw_zreturn d_Clock_isNight_19 rfl (by decide) (Nat.le_of_ble_eq_true rfl) (Nat.le_of_ble_eq_true rfl) ⟨rfl, rfl⟩
    · rw [if_neg hc] at h
      exact aw_pick [] rfl (ih_0 _ h)
def y_Leg_set : MethodName := ⟨"CrewOffice$Leg", "set", "(IIIII)V"⟩
def u_Leg_set : am_U := ("CrewOffice$Leg", "set", prog_4_method_2_code, 6, none, [])
def R_Leg_set : Room := { frames := 0, cells := 0, slots := 0, locals := 0 }
theorem d_Leg_set_0 : decode u_Leg_set.2.2.1 0 = .ok (.aload_n 0, 1) := by decide +kernel
theorem d_Leg_set_1 : decode u_Leg_set.2.2.1 1 = .ok (.iconst 1, 1) := by decide +kernel
theorem d_Leg_set_2 : decode u_Leg_set.2.2.1 2 = .ok (.putfield 9, 3) := by decide +kernel
theorem d_Leg_set_5 : decode u_Leg_set.2.2.1 5 = .ok (.aload_n 0, 1) := by decide +kernel
theorem d_Leg_set_6 : decode u_Leg_set.2.2.1 6 = .ok (.iload_n 1, 1) := by decide +kernel
theorem d_Leg_set_7 : decode u_Leg_set.2.2.1 7 = .ok (.putfield 15, 3) := by decide +kernel
theorem d_Leg_set_10 : decode u_Leg_set.2.2.1 10 = .ok (.aload_n 0, 1) := by decide +kernel
theorem d_Leg_set_11 : decode u_Leg_set.2.2.1 11 = .ok (.iload_n 2, 1) := by decide +kernel
theorem d_Leg_set_12 : decode u_Leg_set.2.2.1 12 = .ok (.putfield 19, 3) := by decide +kernel
theorem d_Leg_set_15 : decode u_Leg_set.2.2.1 15 = .ok (.aload_n 0, 1) := by decide +kernel
theorem d_Leg_set_16 : decode u_Leg_set.2.2.1 16 = .ok (.iload_n 3, 1) := by decide +kernel
theorem d_Leg_set_17 : decode u_Leg_set.2.2.1 17 = .ok (.putfield 22, 3) := by decide +kernel
theorem d_Leg_set_20 : decode u_Leg_set.2.2.1 20 = .ok (.aload_n 0, 1) := by decide +kernel
theorem d_Leg_set_21 : decode u_Leg_set.2.2.1 21 = .ok (.iload 4, 2) := by decide +kernel
theorem d_Leg_set_23 : decode u_Leg_set.2.2.1 23 = .ok (.putfield 25, 3) := by decide +kernel
theorem d_Leg_set_26 : decode u_Leg_set.2.2.1 26 = .ok (.aload_n 0, 1) := by decide +kernel
theorem d_Leg_set_27 : decode u_Leg_set.2.2.1 27 = .ok (.iload 5, 2) := by decide +kernel
theorem d_Leg_set_29 : decode u_Leg_set.2.2.1 29 = .ok (.putfield 28, 3) := by decide +kernel
theorem d_Leg_set_32 : decode u_Leg_set.2.2.1 32 = .ok (.return_, 1) := by decide +kernel
theorem w_Leg_set : am_code y_Leg_set u_Leg_set ∈ am_ws := am_mem (List.mem_of_getElem? (i := 723) (by decide +kernel)) rfl
def e_Leg_set (M : am_M) (a0 : Nat) (a1 : Int32) (a2 : Int32) (a3 : Int32) (a4 : Int32) (a5 : Int32) : Option (Unit × am_M) := (q_ptz M a0 1 0 (1 : Int32)).bind (fun M2 => (q_pti M2 a0 1 1 a1).bind (fun M7 => (q_pti M7 a0 1 2 a2).bind (fun M12 => (q_pti M12 a0 1 3 a3).bind (fun M17 => (q_pti M17 a0 1 4 a4).bind (fun M23 => (q_pti M23 a0 1 5 a5).bind (fun M29 => some ((), M29)))))))
def f_Leg_set (M : am_M) (a0 : Nat) (a1 : Int32) (a2 : Int32) (a3 : Int32) (a4 : Int32) (a5 : Int32) : Option (Unit × am_M) := e_Leg_set M a0 a1 a2 a3 a4 a5
theorem fl_Leg_9 : am_fl "CrewOffice$Leg" 9 1 0 := ⟨by decide, by decide, List.mem_of_getElem? (i := 127) (by decide +kernel)⟩
theorem fl_Leg_15 : am_fl "CrewOffice$Leg" 15 1 1 := ⟨by decide, by decide, List.mem_of_getElem? (i := 132) (by decide +kernel)⟩
theorem fl_Leg_19 : am_fl "CrewOffice$Leg" 19 1 2 := ⟨by decide, by decide, List.mem_of_getElem? (i := 136) (by decide +kernel)⟩
theorem fl_Leg_22 : am_fl "CrewOffice$Leg" 22 1 3 := ⟨by decide, by decide, List.mem_of_getElem? (i := 140) (by decide +kernel)⟩
theorem fl_Leg_25 : am_fl "CrewOffice$Leg" 25 1 4 := ⟨by decide, by decide, List.mem_of_getElem? (i := 143) (by decide +kernel)⟩
theorem fl_Leg_28 : am_fl "CrewOffice$Leg" 28 1 5 := ⟨by decide, by decide, List.mem_of_getElem? (i := 146) (by decide +kernel)⟩
set_option maxHeartbeats 4000000 in
theorem mt_Leg_set {M : am_M} {a0 : Nat} {a1 : Int32} {a2 : Int32} {a3 : Int32} {a4 : Int32} {a5 : Int32} {res : Unit} {M' : am_M} (h : f_Leg_set M a0 a1 a2 a3 a4 a5 = some (res, M')) : AMet y_Leg_set u_Leg_set R_Leg_set [.ref a0, .int a1, .int a2, .int a3, .int a4, .int a5] M (fun r M2 => r = .inl none ∧ M2 = M') := by
  refine am_met (by decide +kernel) w_Leg_set rfl rfl (Nat.le_of_ble_eq_true rfl) ?_
  show AW u_Leg_set R_Leg_set 0 0 0 [(0, .ref a0), (1, .int a1), (2, .int a2), (3, .int a3), (4, .int a4), (5, .int a5)] [] M (fun r M2 => r = .inl none ∧ M2 = M')
  unfold f_Leg_set at h
  unfold e_Leg_set at h
  refine aw_aload_n d_Leg_set_0 rfl rfl ?_
  refine aw_iconst (v := 1) d_Leg_set_1 (by decide) ?_
  obtain ⟨M2, e_M2, h⟩ := q_bind h
  refine aw_ptz d_Leg_set_2 fl_Leg_9 rfl rfl e_M2 ?_
  refine aw_aload_n d_Leg_set_5 rfl rfl ?_
  refine aw_iload_n d_Leg_set_6 rfl rfl ?_
  obtain ⟨M7, e_M7, h⟩ := q_bind h
  refine aw_pti d_Leg_set_7 fl_Leg_15 rfl rfl e_M7 ?_
  refine aw_aload_n d_Leg_set_10 rfl rfl ?_
  refine aw_iload_n d_Leg_set_11 rfl rfl ?_
  obtain ⟨M12, e_M12, h⟩ := q_bind h
  refine aw_pti d_Leg_set_12 fl_Leg_19 rfl rfl e_M12 ?_
  refine aw_aload_n d_Leg_set_15 rfl rfl ?_
  refine aw_iload_n d_Leg_set_16 rfl rfl ?_
  obtain ⟨M17, e_M17, h⟩ := q_bind h
  refine aw_pti d_Leg_set_17 fl_Leg_22 rfl rfl e_M17 ?_
  refine aw_aload_n d_Leg_set_20 rfl rfl ?_
  refine aw_iload d_Leg_set_21 rfl ?_
  obtain ⟨M23, e_M23, h⟩ := q_bind h
  refine aw_pti d_Leg_set_23 fl_Leg_25 rfl rfl e_M23 ?_
  refine aw_aload_n d_Leg_set_26 rfl rfl ?_
  refine aw_iload d_Leg_set_27 rfl ?_
  obtain ⟨M29, e_M29, h⟩ := q_bind h
  refine aw_pti d_Leg_set_29 fl_Leg_28 rfl rfl e_M29 ?_
  cases h
  exact aw_vreturn d_Leg_set_32 rfl (Nat.le_of_ble_eq_true rfl) (Nat.le_of_ble_eq_true rfl) ⟨rfl, rfl⟩
def y_Leg_shift : MethodName := ⟨"CrewOffice$Leg", "shift", "(I)Z"⟩
def u_Leg_shift : am_U := ("CrewOffice$Leg", "shift", prog_4_method_3_code, 2, (some .boolean), [])
def R_Leg_shift : Room := { frames := 0, cells := 0, slots := 0, locals := 0 }
theorem d_Leg_shift_0 : decode u_Leg_shift.2.2.1 0 = .ok (.iload_n 1, 1) := by decide +kernel
theorem d_Leg_shift_1 : decode u_Leg_shift.2.2.1 1 = .ok (.aload_n 0, 1) := by decide +kernel
theorem d_Leg_shift_2 : decode u_Leg_shift.2.2.1 2 = .ok (.getfield 22, 3) := by decide +kernel
theorem d_Leg_shift_5 : decode u_Leg_shift.2.2.1 5 = .ok (.ineg, 1) := by decide +kernel
theorem d_Leg_shift_6 : decode u_Leg_shift.2.2.1 6 = .ok (.if_icmp .lt 15, 3) := by decide +kernel
theorem d_Leg_shift_9 : decode u_Leg_shift.2.2.1 9 = .ok (.iload_n 1, 1) := by decide +kernel
theorem d_Leg_shift_10 : decode u_Leg_shift.2.2.1 10 = .ok (.sipush 20160, 3) := by decide +kernel
theorem d_Leg_shift_13 : decode u_Leg_shift.2.2.1 13 = .ok (.aload_n 0, 1) := by decide +kernel
theorem d_Leg_shift_14 : decode u_Leg_shift.2.2.1 14 = .ok (.getfield 25, 3) := by decide +kernel
theorem d_Leg_shift_17 : decode u_Leg_shift.2.2.1 17 = .ok (.isub, 1) := by decide +kernel
theorem d_Leg_shift_18 : decode u_Leg_shift.2.2.1 18 = .ok (.if_icmp .le 5, 3) := by decide +kernel
theorem d_Leg_shift_21 : decode u_Leg_shift.2.2.1 21 = .ok (.iconst 0, 1) := by decide +kernel
theorem d_Leg_shift_22 : decode u_Leg_shift.2.2.1 22 = .ok (.ireturn, 1) := by decide +kernel
theorem d_Leg_shift_23 : decode u_Leg_shift.2.2.1 23 = .ok (.aload_n 0, 1) := by decide +kernel
theorem d_Leg_shift_24 : decode u_Leg_shift.2.2.1 24 = .ok (.dup, 1) := by decide +kernel
theorem d_Leg_shift_25 : decode u_Leg_shift.2.2.1 25 = .ok (.getfield 22, 3) := by decide +kernel
theorem d_Leg_shift_28 : decode u_Leg_shift.2.2.1 28 = .ok (.iload_n 1, 1) := by decide +kernel
theorem d_Leg_shift_29 : decode u_Leg_shift.2.2.1 29 = .ok (.iadd, 1) := by decide +kernel
theorem d_Leg_shift_30 : decode u_Leg_shift.2.2.1 30 = .ok (.putfield 22, 3) := by decide +kernel
theorem d_Leg_shift_33 : decode u_Leg_shift.2.2.1 33 = .ok (.aload_n 0, 1) := by decide +kernel
theorem d_Leg_shift_34 : decode u_Leg_shift.2.2.1 34 = .ok (.dup, 1) := by decide +kernel
theorem d_Leg_shift_35 : decode u_Leg_shift.2.2.1 35 = .ok (.getfield 25, 3) := by decide +kernel
theorem d_Leg_shift_38 : decode u_Leg_shift.2.2.1 38 = .ok (.iload_n 1, 1) := by decide +kernel
theorem d_Leg_shift_39 : decode u_Leg_shift.2.2.1 39 = .ok (.iadd, 1) := by decide +kernel
theorem d_Leg_shift_40 : decode u_Leg_shift.2.2.1 40 = .ok (.putfield 25, 3) := by decide +kernel
theorem d_Leg_shift_43 : decode u_Leg_shift.2.2.1 43 = .ok (.iconst 1, 1) := by decide +kernel
theorem d_Leg_shift_44 : decode u_Leg_shift.2.2.1 44 = .ok (.ireturn, 1) := by decide +kernel
theorem w_Leg_shift : am_code y_Leg_shift u_Leg_shift ∈ am_ws := am_mem (List.mem_of_getElem? (i := 741) (by decide +kernel)) rfl
def e_Leg_shift (M : am_M) (a0 : Nat) (a1 : Int32) : Option (Int32 × am_M) := (q_gti M a0 1 3).bind (fun t2 => if a1 < (-t2) then (some ((0 : Int32), M)) else ((q_gti M a0 1 4).bind (fun t14 => if a1 ≤ ((20160 : Int32) - t14) then ((q_gti M a0 1 3).bind (fun t25 => (q_pti M a0 1 3 (t25 + a1)).bind (fun M30 => (q_gti M30 a0 1 4).bind (fun t35 => (q_pti M30 a0 1 4 (t35 + a1)).bind (fun M40 => some ((1 : Int32), M40)))))) else (some ((0 : Int32), M)))))
def f_Leg_shift (M : am_M) (a0 : Nat) (a1 : Int32) : Option (Int32 × am_M) := e_Leg_shift M a0 a1
set_option maxHeartbeats 4000000 in
theorem mt_Leg_shift {M : am_M} {a0 : Nat} {a1 : Int32} {res : Int32} {M' : am_M} (h : f_Leg_shift M a0 a1 = some (res, M')) : AMet y_Leg_shift u_Leg_shift R_Leg_shift [.ref a0, .int a1] M (fun r M2 => r = .inl (some (.int res)) ∧ M2 = M') := by
  refine am_met (by decide +kernel) w_Leg_shift rfl rfl (Nat.le_of_ble_eq_true rfl) ?_
  show AW u_Leg_shift R_Leg_shift 0 0 0 [(0, .ref a0), (1, .int a1)] [] M (fun r M2 => r = .inl (some (.int res)) ∧ M2 = M')
  unfold f_Leg_shift at h
  unfold e_Leg_shift at h
  refine aw_iload_n d_Leg_shift_0 rfl rfl ?_
  refine aw_aload_n d_Leg_shift_1 rfl rfl ?_
  obtain ⟨t2, e_t2, h⟩ := q_bind h
  refine aw_gti d_Leg_shift_2 fl_Leg_22 (Or.inl rfl) e_t2 ?_
  refine aw_ineg d_Leg_shift_5 ?_
  refine aw_icmp_lt (tgt := 21) d_Leg_shift_6 (by decide) (fun hc => ?_) (fun hc => ?_)
  · rw [if_pos hc] at h
    refine aw_iconst (v := 0) d_Leg_shift_21 (by decide) ?_
    cases h
    exact aw_zreturn d_Leg_shift_22 rfl (by decide) (Nat.le_of_ble_eq_true rfl) (Nat.le_of_ble_eq_true rfl) ⟨rfl, rfl⟩
  · rw [if_neg hc] at h
    refine aw_iload_n d_Leg_shift_9 rfl rfl ?_
    refine aw_sipush (v := 20160) d_Leg_shift_10 (by decide) ?_
    refine aw_aload_n d_Leg_shift_13 rfl rfl ?_
    obtain ⟨t14, e_t14, h⟩ := q_bind h
    refine aw_gti d_Leg_shift_14 fl_Leg_25 (Or.inl rfl) e_t14 ?_
    refine aw_isub d_Leg_shift_17 ?_
    refine aw_icmp_le (tgt := 23) d_Leg_shift_18 (by decide) (fun hc => ?_) (fun hc => ?_)
    · rw [if_pos hc] at h
      refine aw_aload_n d_Leg_shift_23 rfl rfl ?_
      refine aw_dup d_Leg_shift_24 rfl ?_
      obtain ⟨t25, e_t25, h⟩ := q_bind h
      refine aw_gti d_Leg_shift_25 fl_Leg_22 (Or.inl rfl) e_t25 ?_
      refine aw_iload_n d_Leg_shift_28 rfl rfl ?_
      refine aw_iadd d_Leg_shift_29 ?_
      obtain ⟨M30, e_M30, h⟩ := q_bind h
      refine aw_pti d_Leg_shift_30 fl_Leg_22 rfl rfl e_M30 ?_
      refine aw_aload_n d_Leg_shift_33 rfl rfl ?_
      refine aw_dup d_Leg_shift_34 rfl ?_
      obtain ⟨t35, e_t35, h⟩ := q_bind h
      refine aw_gti d_Leg_shift_35 fl_Leg_25 (Or.inl rfl) e_t35 ?_
      refine aw_iload_n d_Leg_shift_38 rfl rfl ?_
      refine aw_iadd d_Leg_shift_39 ?_
      obtain ⟨M40, e_M40, h⟩ := q_bind h
      refine aw_pti d_Leg_shift_40 fl_Leg_25 rfl rfl e_M40 ?_
      refine aw_iconst (v := 1) d_Leg_shift_43 (by decide) ?_
      cases h
      exact aw_zreturn d_Leg_shift_44 rfl (by decide) (Nat.le_of_ble_eq_true rfl) (Nat.le_of_ble_eq_true rfl) ⟨rfl, rfl⟩
    · rw [if_neg hc] at h
      refine aw_iconst (v := 0) d_Leg_shift_21 (by decide) ?_
      cases h
      exact aw_zreturn d_Leg_shift_22 rfl (by decide) (Nat.le_of_ble_eq_true rfl) (Nat.le_of_ble_eq_true rfl) ⟨rfl, rfl⟩
def y_Listing_forget : MethodName := ⟨"CrewOffice$Listing", "forget", "()V"⟩
def u_Listing_forget : am_U := ("CrewOffice$Listing", "forget", prog_5_method_2_code, 1, none, [])
def R_Listing_forget : Room := { frames := 0, cells := 0, slots := 0, locals := 0 }
theorem d_Listing_forget_0 : decode u_Listing_forget.2.2.1 0 = .ok (.aload_n 0, 1) := by decide +kernel
theorem d_Listing_forget_1 : decode u_Listing_forget.2.2.1 1 = .ok (.iconst (-1), 1) := by decide +kernel
theorem d_Listing_forget_2 : decode u_Listing_forget.2.2.1 2 = .ok (.putfield 17, 3) := by decide +kernel
theorem d_Listing_forget_5 : decode u_Listing_forget.2.2.1 5 = .ok (.return_, 1) := by decide +kernel
theorem w_Listing_forget : am_code y_Listing_forget u_Listing_forget ∈ am_ws := am_mem (List.mem_of_getElem? (i := 460) (by decide +kernel)) rfl
def e_Listing_forget (M : am_M) (a0 : Nat) : Option (Unit × am_M) := (q_pti M a0 6 3 (-1 : Int32)).bind (fun M2 => some ((), M2))
def f_Listing_forget (M : am_M) (a0 : Nat) : Option (Unit × am_M) := e_Listing_forget M a0
theorem fl_Listing_17 : am_fl "CrewOffice$Listing" 17 6 3 := ⟨by decide, by decide, List.mem_of_getElem? (i := 350) (by decide +kernel)⟩
set_option maxHeartbeats 4000000 in
theorem mt_Listing_forget {M : am_M} {a0 : Nat} {res : Unit} {M' : am_M} (h : f_Listing_forget M a0 = some (res, M')) : AMet y_Listing_forget u_Listing_forget R_Listing_forget [.ref a0] M (fun r M2 => r = .inl none ∧ M2 = M') := by
  refine am_met (by decide +kernel) w_Listing_forget rfl rfl (Nat.le_of_ble_eq_true rfl) ?_
  show AW u_Listing_forget R_Listing_forget 0 0 0 [(0, .ref a0)] [] M (fun r M2 => r = .inl none ∧ M2 = M')
  unfold f_Listing_forget at h
  unfold e_Listing_forget at h
  refine aw_aload_n d_Listing_forget_0 rfl rfl ?_
  refine aw_iconst (v := -1) d_Listing_forget_1 (by decide) ?_
  obtain ⟨M2, e_M2, h⟩ := q_bind h
  refine aw_pti d_Listing_forget_2 fl_Listing_17 rfl rfl e_M2 ?_
  cases h
  exact aw_vreturn d_Listing_forget_5 rfl (Nat.le_of_ble_eq_true rfl) (Nat.le_of_ble_eq_true rfl) ⟨rfl, rfl⟩
def y_Listing_canBeMended : MethodName := ⟨"CrewOffice$Listing", "canBeMended", "(I)Z"⟩
def u_Listing_canBeMended : am_U := ("CrewOffice$Listing", "canBeMended", prog_5_method_6_code, 1, (some .boolean), [])
def R_Listing_canBeMended : Room := { frames := 0, cells := 0, slots := 0, locals := 0 }
theorem d_Listing_canBeMended_0 : decode u_Listing_canBeMended.2.2.1 0 = .ok (.iload_n 0, 1) := by decide +kernel
theorem d_Listing_canBeMended_1 : decode u_Listing_canBeMended.2.2.1 1 = .ok (.ifCond .eq 14, 3) := by decide +kernel
theorem d_Listing_canBeMended_4 : decode u_Listing_canBeMended.2.2.1 4 = .ok (.iload_n 0, 1) := by decide +kernel
theorem d_Listing_canBeMended_5 : decode u_Listing_canBeMended.2.2.1 5 = .ok (.iconst 4, 1) := by decide +kernel
theorem d_Listing_canBeMended_6 : decode u_Listing_canBeMended.2.2.1 6 = .ok (.if_icmp .eq 9, 3) := by decide +kernel
theorem d_Listing_canBeMended_9 : decode u_Listing_canBeMended.2.2.1 9 = .ok (.iload_n 0, 1) := by decide +kernel
theorem d_Listing_canBeMended_10 : decode u_Listing_canBeMended.2.2.1 10 = .ok (.bipush 8, 2) := by decide +kernel
theorem d_Listing_canBeMended_12 : decode u_Listing_canBeMended.2.2.1 12 = .ok (.if_icmp .ne 7, 3) := by decide +kernel
theorem d_Listing_canBeMended_15 : decode u_Listing_canBeMended.2.2.1 15 = .ok (.iconst 1, 1) := by decide +kernel
theorem d_Listing_canBeMended_16 : decode u_Listing_canBeMended.2.2.1 16 = .ok (.goto 4, 3) := by decide +kernel
theorem d_Listing_canBeMended_19 : decode u_Listing_canBeMended.2.2.1 19 = .ok (.iconst 0, 1) := by decide +kernel
theorem d_Listing_canBeMended_20 : decode u_Listing_canBeMended.2.2.1 20 = .ok (.ireturn, 1) := by decide +kernel
theorem w_Listing_canBeMended : am_code y_Listing_canBeMended u_Listing_canBeMended ∈ am_ws := am_mem (List.mem_of_getElem? (i := 591) (by decide +kernel)) rfl
def a_Listing_canBeMended_0 (rc : Nat → am_M → Option (Int32))  (M : am_M) : Option (Int32) := some (1 : Int32)
def g_Listing_canBeMended : Nat → Nat → am_M → Option (Int32)
  | 0, _, _ => none
  | F + 1, 0, M => a_Listing_canBeMended_0 (g_Listing_canBeMended F) M
  | _ + 1, _ + 1, _ => none
def e_Listing_canBeMended (rc : Nat → am_M → Option (Int32)) (M : am_M) (a0 : Int32) : Option (Int32) := if a0 = 0 then (rc 0  M) else (if a0 = (4 : Int32) then (rc 0  M) else (if a0 = (8 : Int32) then (rc 0  M) else (some (0 : Int32))))
def f_Listing_canBeMended (M : am_M) (a0 : Int32) : Option (Int32) := e_Listing_canBeMended (g_Listing_canBeMended 1000000000) M a0
set_option maxHeartbeats 4000000 in
theorem s_Listing_canBeMended_0 {rc : Nat → am_M → Option (Int32)} {res : Int32} (ih_0 : ∀  (M : am_M), rc 0  M = some res → AW u_Listing_canBeMended R_Listing_canBeMended 0 0 15 [] [] M (fun r M2 => r = .inl (some (.int res)) ∧ M2 = M)) : ∀  (M : am_M), a_Listing_canBeMended_0 rc  M = some res → AW u_Listing_canBeMended R_Listing_canBeMended 0 0 15 [] [] M (fun r M2 => r = .inl (some (.int res)) ∧ M2 = M) := by
  intro  M h
  unfold a_Listing_canBeMended_0 at h
  refine aw_iconst (v := 1) d_Listing_canBeMended_15 (by decide) ?_
  refine aw_goto (tgt := 20) d_Listing_canBeMended_16 (by decide) ?_
  cases h
  exact aw_zreturn d_Listing_canBeMended_20 rfl (by decide) (Nat.le_of_ble_eq_true rfl) (Nat.le_of_ble_eq_true rfl) ⟨rfl, rfl⟩
theorem l_Listing_canBeMended {res : Int32} : ∀ F : Nat, (∀  (M : am_M), g_Listing_canBeMended F 0  M = some res → AW u_Listing_canBeMended R_Listing_canBeMended 0 0 15 [] [] M (fun r M2 => r = .inl (some (.int res)) ∧ M2 = M)) := by
  intro F
  induction F with
  | zero => exact fun _  h => (by cases h)
  | succ F ih =>
    have ih0 := ih
    exact s_Listing_canBeMended_0 ih0
set_option maxHeartbeats 4000000 in
theorem mt_Listing_canBeMended {M : am_M} {a0 : Int32} {res : Int32} (h : f_Listing_canBeMended M a0 = some res) : AMet y_Listing_canBeMended u_Listing_canBeMended R_Listing_canBeMended [.int a0] M (fun r M2 => r = .inl (some (.int res)) ∧ M2 = M) := by
  refine am_met (by decide +kernel) w_Listing_canBeMended rfl rfl (Nat.le_of_ble_eq_true rfl) ?_
  show AW u_Listing_canBeMended R_Listing_canBeMended 0 0 0 [(0, .int a0)] [] M (fun r M2 => r = .inl (some (.int res)) ∧ M2 = M)
  have ih_0 := (l_Listing_canBeMended (res := res) 1000000000)
  unfold f_Listing_canBeMended at h
  unfold e_Listing_canBeMended at h
  generalize g_Listing_canBeMended 1000000000 = rc at h ih_0
  refine aw_iload_n d_Listing_canBeMended_0 rfl rfl ?_
  refine aw_if_eq (tgt := 15) d_Listing_canBeMended_1 (by decide) (fun hc => ?_) (fun hc => ?_)
  · rw [if_pos hc] at h
    exact aw_pick [] rfl (ih_0 _ h)
  · rw [if_neg hc] at h
    refine aw_iload_n d_Listing_canBeMended_4 rfl rfl ?_
    refine aw_iconst (v := 4) d_Listing_canBeMended_5 (by decide) ?_
    refine aw_icmp_eq (tgt := 15) d_Listing_canBeMended_6 (by decide) (fun hc => ?_) (fun hc => ?_)
    · rw [if_pos hc] at h
      exact aw_pick [] rfl (ih_0 _ h)
    · rw [if_neg hc] at h
      refine aw_iload_n d_Listing_canBeMended_9 rfl rfl ?_
      refine aw_bipush (v := 8) d_Listing_canBeMended_10 (by decide) ?_
      refine aw_icmp_ne (tgt := 19) d_Listing_canBeMended_12 (by decide) (fun hc => ?_) (fun hc => ?_)
      · rw [if_neg hc] at h
        refine aw_iconst (v := 0) d_Listing_canBeMended_19 (by decide) ?_
        cases h
        exact aw_zreturn d_Listing_canBeMended_20 rfl (by decide) (Nat.le_of_ble_eq_true rfl) (Nat.le_of_ble_eq_true rfl) ⟨rfl, rfl⟩
      · rw [if_pos hc] at h
        exact aw_pick [] rfl (ih_0 _ h)
def y_Member_set : MethodName := ⟨"CrewOffice$Member", "set", "(IIII)V"⟩
def u_Member_set : am_U := ("CrewOffice$Member", "set", prog_6_method_2_code, 5, none, [])
def R_Member_set : Room := { frames := 0, cells := 0, slots := 0, locals := 0 }
theorem d_Member_set_0 : decode u_Member_set.2.2.1 0 = .ok (.aload_n 0, 1) := by decide +kernel
theorem d_Member_set_1 : decode u_Member_set.2.2.1 1 = .ok (.iconst 1, 1) := by decide +kernel
theorem d_Member_set_2 : decode u_Member_set.2.2.1 2 = .ok (.putfield 21, 3) := by decide +kernel
theorem d_Member_set_5 : decode u_Member_set.2.2.1 5 = .ok (.aload_n 0, 1) := by decide +kernel
theorem d_Member_set_6 : decode u_Member_set.2.2.1 6 = .ok (.iload_n 1, 1) := by decide +kernel
theorem d_Member_set_7 : decode u_Member_set.2.2.1 7 = .ok (.putfield 25, 3) := by decide +kernel
theorem d_Member_set_10 : decode u_Member_set.2.2.1 10 = .ok (.aload_n 0, 1) := by decide +kernel
theorem d_Member_set_11 : decode u_Member_set.2.2.1 11 = .ok (.iload_n 2, 1) := by decide +kernel
theorem d_Member_set_12 : decode u_Member_set.2.2.1 12 = .ok (.putfield 29, 3) := by decide +kernel
theorem d_Member_set_15 : decode u_Member_set.2.2.1 15 = .ok (.aload_n 0, 1) := by decide +kernel
theorem d_Member_set_16 : decode u_Member_set.2.2.1 16 = .ok (.iload_n 3, 1) := by decide +kernel
theorem d_Member_set_17 : decode u_Member_set.2.2.1 17 = .ok (.putfield 32, 3) := by decide +kernel
theorem d_Member_set_20 : decode u_Member_set.2.2.1 20 = .ok (.aload_n 0, 1) := by decide +kernel
theorem d_Member_set_21 : decode u_Member_set.2.2.1 21 = .ok (.iload 4, 2) := by decide +kernel
theorem d_Member_set_23 : decode u_Member_set.2.2.1 23 = .ok (.putfield 35, 3) := by decide +kernel
theorem d_Member_set_26 : decode u_Member_set.2.2.1 26 = .ok (.aload_n 0, 1) := by decide +kernel
theorem d_Member_set_27 : decode u_Member_set.2.2.1 27 = .ok (.iconst 0, 1) := by decide +kernel
theorem d_Member_set_28 : decode u_Member_set.2.2.1 28 = .ok (.putfield 38, 3) := by decide +kernel
theorem d_Member_set_31 : decode u_Member_set.2.2.1 31 = .ok (.aload_n 0, 1) := by decide +kernel
theorem d_Member_set_32 : decode u_Member_set.2.2.1 32 = .ok (.iconst 0, 1) := by decide +kernel
theorem d_Member_set_33 : decode u_Member_set.2.2.1 33 = .ok (.putfield 41, 3) := by decide +kernel
theorem d_Member_set_36 : decode u_Member_set.2.2.1 36 = .ok (.aload_n 0, 1) := by decide +kernel
theorem d_Member_set_37 : decode u_Member_set.2.2.1 37 = .ok (.iconst 0, 1) := by decide +kernel
theorem d_Member_set_38 : decode u_Member_set.2.2.1 38 = .ok (.putfield 44, 3) := by decide +kernel
theorem d_Member_set_41 : decode u_Member_set.2.2.1 41 = .ok (.return_, 1) := by decide +kernel
theorem w_Member_set : am_code y_Member_set u_Member_set ∈ am_ws := am_mem (List.mem_of_getElem? (i := 770) (by decide +kernel)) rfl
def e_Member_set (M : am_M) (a0 : Nat) (a1 : Int32) (a2 : Int32) (a3 : Int32) (a4 : Int32) : Option (Unit × am_M) := (q_ptz M a0 2 0 (1 : Int32)).bind (fun M2 => (q_pti M2 a0 2 1 a1).bind (fun M7 => (q_pti M7 a0 2 2 a2).bind (fun M12 => (q_pti M12 a0 2 3 a3).bind (fun M17 => (q_pti M17 a0 2 4 a4).bind (fun M23 => (q_pti M23 a0 2 5 (0 : Int32)).bind (fun M28 => (q_pti M28 a0 2 6 (0 : Int32)).bind (fun M33 => (q_pti M33 a0 2 7 (0 : Int32)).bind (fun M38 => some ((), M38)))))))))
def f_Member_set (M : am_M) (a0 : Nat) (a1 : Int32) (a2 : Int32) (a3 : Int32) (a4 : Int32) : Option (Unit × am_M) := e_Member_set M a0 a1 a2 a3 a4
theorem fl_Member_21 : am_fl "CrewOffice$Member" 21 2 0 := ⟨by decide, by decide, List.mem_of_getElem? (i := 166) (by decide +kernel)⟩
theorem fl_Member_25 : am_fl "CrewOffice$Member" 25 2 1 := ⟨by decide, by decide, List.mem_of_getElem? (i := 170) (by decide +kernel)⟩
theorem fl_Member_29 : am_fl "CrewOffice$Member" 29 2 2 := ⟨by decide, by decide, List.mem_of_getElem? (i := 173) (by decide +kernel)⟩
theorem fl_Member_32 : am_fl "CrewOffice$Member" 32 2 3 := ⟨by decide, by decide, List.mem_of_getElem? (i := 175) (by decide +kernel)⟩
theorem fl_Member_35 : am_fl "CrewOffice$Member" 35 2 4 := ⟨by decide, by decide, List.mem_of_getElem? (i := 176) (by decide +kernel)⟩
theorem fl_Member_38 : am_fl "CrewOffice$Member" 38 2 5 := ⟨by decide, by decide, List.mem_of_getElem? (i := 178) (by decide +kernel)⟩
theorem fl_Member_41 : am_fl "CrewOffice$Member" 41 2 6 := ⟨by decide, by decide, List.mem_of_getElem? (i := 180) (by decide +kernel)⟩
theorem fl_Member_44 : am_fl "CrewOffice$Member" 44 2 7 := ⟨by decide, by decide, List.mem_of_getElem? (i := 182) (by decide +kernel)⟩
set_option maxHeartbeats 4000000 in
theorem mt_Member_set {M : am_M} {a0 : Nat} {a1 : Int32} {a2 : Int32} {a3 : Int32} {a4 : Int32} {res : Unit} {M' : am_M} (h : f_Member_set M a0 a1 a2 a3 a4 = some (res, M')) : AMet y_Member_set u_Member_set R_Member_set [.ref a0, .int a1, .int a2, .int a3, .int a4] M (fun r M2 => r = .inl none ∧ M2 = M') := by
  refine am_met (by decide +kernel) w_Member_set rfl rfl (Nat.le_of_ble_eq_true rfl) ?_
  show AW u_Member_set R_Member_set 0 0 0 [(0, .ref a0), (1, .int a1), (2, .int a2), (3, .int a3), (4, .int a4)] [] M (fun r M2 => r = .inl none ∧ M2 = M')
  unfold f_Member_set at h
  unfold e_Member_set at h
  refine aw_aload_n d_Member_set_0 rfl rfl ?_
  refine aw_iconst (v := 1) d_Member_set_1 (by decide) ?_
  obtain ⟨M2, e_M2, h⟩ := q_bind h
  refine aw_ptz d_Member_set_2 fl_Member_21 rfl rfl e_M2 ?_
  refine aw_aload_n d_Member_set_5 rfl rfl ?_
  refine aw_iload_n d_Member_set_6 rfl rfl ?_
  obtain ⟨M7, e_M7, h⟩ := q_bind h
  refine aw_pti d_Member_set_7 fl_Member_25 rfl rfl e_M7 ?_
  refine aw_aload_n d_Member_set_10 rfl rfl ?_
  refine aw_iload_n d_Member_set_11 rfl rfl ?_
  obtain ⟨M12, e_M12, h⟩ := q_bind h
  refine aw_pti d_Member_set_12 fl_Member_29 rfl rfl e_M12 ?_
  refine aw_aload_n d_Member_set_15 rfl rfl ?_
  refine aw_iload_n d_Member_set_16 rfl rfl ?_
  obtain ⟨M17, e_M17, h⟩ := q_bind h
  refine aw_pti d_Member_set_17 fl_Member_32 rfl rfl e_M17 ?_
  refine aw_aload_n d_Member_set_20 rfl rfl ?_
  refine aw_iload d_Member_set_21 rfl ?_
  obtain ⟨M23, e_M23, h⟩ := q_bind h
  refine aw_pti d_Member_set_23 fl_Member_35 rfl rfl e_M23 ?_
  refine aw_aload_n d_Member_set_26 rfl rfl ?_
  refine aw_iconst (v := 0) d_Member_set_27 (by decide) ?_
  obtain ⟨M28, e_M28, h⟩ := q_bind h
  refine aw_pti d_Member_set_28 fl_Member_38 rfl rfl e_M28 ?_
  refine aw_aload_n d_Member_set_31 rfl rfl ?_
  refine aw_iconst (v := 0) d_Member_set_32 (by decide) ?_
  obtain ⟨M33, e_M33, h⟩ := q_bind h
  refine aw_pti d_Member_set_33 fl_Member_41 rfl rfl e_M33 ?_
  refine aw_aload_n d_Member_set_36 rfl rfl ?_
  refine aw_iconst (v := 0) d_Member_set_37 (by decide) ?_
  obtain ⟨M38, e_M38, h⟩ := q_bind h
  refine aw_pti d_Member_set_38 fl_Member_44 rfl rfl e_M38 ?_
  cases h
  exact aw_vreturn d_Member_set_41 rfl (Nat.le_of_ble_eq_true rfl) (Nat.le_of_ble_eq_true rfl) ⟨rfl, rfl⟩
def y_Member_addBid : MethodName := ⟨"CrewOffice$Member", "addBid", "(III)V"⟩
def u_Member_addBid : am_U := ("CrewOffice$Member", "addBid", prog_6_method_3_code, 4, none, [])
def R_Member_addBid : Room := { frames := 0, cells := 0, slots := 0, locals := 0 }
theorem d_Member_addBid_0 : decode u_Member_addBid.2.2.1 0 = .ok (.aload_n 0, 1) := by decide +kernel
theorem d_Member_addBid_1 : decode u_Member_addBid.2.2.1 1 = .ok (.getfield 44, 3) := by decide +kernel
theorem d_Member_addBid_4 : decode u_Member_addBid.2.2.1 4 = .ok (.bipush 6, 2) := by decide +kernel
theorem d_Member_addBid_6 : decode u_Member_addBid.2.2.1 6 = .ok (.if_icmp .ge 43, 3) := by decide +kernel
theorem d_Member_addBid_9 : decode u_Member_addBid.2.2.1 9 = .ok (.aload_n 0, 1) := by decide +kernel
theorem d_Member_addBid_10 : decode u_Member_addBid.2.2.1 10 = .ok (.getfield 9, 3) := by decide +kernel
theorem d_Member_addBid_13 : decode u_Member_addBid.2.2.1 13 = .ok (.aload_n 0, 1) := by decide +kernel
theorem d_Member_addBid_14 : decode u_Member_addBid.2.2.1 14 = .ok (.getfield 44, 3) := by decide +kernel
theorem d_Member_addBid_17 : decode u_Member_addBid.2.2.1 17 = .ok (.iload_n 1, 1) := by decide +kernel
theorem d_Member_addBid_18 : decode u_Member_addBid.2.2.1 18 = .ok (.iastore, 1) := by decide +kernel
theorem d_Member_addBid_19 : decode u_Member_addBid.2.2.1 19 = .ok (.aload_n 0, 1) := by decide +kernel
theorem d_Member_addBid_20 : decode u_Member_addBid.2.2.1 20 = .ok (.getfield 15, 3) := by decide +kernel
theorem d_Member_addBid_23 : decode u_Member_addBid.2.2.1 23 = .ok (.aload_n 0, 1) := by decide +kernel
theorem d_Member_addBid_24 : decode u_Member_addBid.2.2.1 24 = .ok (.getfield 44, 3) := by decide +kernel
theorem d_Member_addBid_27 : decode u_Member_addBid.2.2.1 27 = .ok (.iload_n 2, 1) := by decide +kernel
theorem d_Member_addBid_28 : decode u_Member_addBid.2.2.1 28 = .ok (.iastore, 1) := by decide +kernel
theorem d_Member_addBid_29 : decode u_Member_addBid.2.2.1 29 = .ok (.aload_n 0, 1) := by decide +kernel
theorem d_Member_addBid_30 : decode u_Member_addBid.2.2.1 30 = .ok (.getfield 18, 3) := by decide +kernel
theorem d_Member_addBid_33 : decode u_Member_addBid.2.2.1 33 = .ok (.aload_n 0, 1) := by decide +kernel
theorem d_Member_addBid_34 : decode u_Member_addBid.2.2.1 34 = .ok (.getfield 44, 3) := by decide +kernel
theorem d_Member_addBid_37 : decode u_Member_addBid.2.2.1 37 = .ok (.iload_n 3, 1) := by decide +kernel
theorem d_Member_addBid_38 : decode u_Member_addBid.2.2.1 38 = .ok (.iastore, 1) := by decide +kernel
theorem d_Member_addBid_39 : decode u_Member_addBid.2.2.1 39 = .ok (.aload_n 0, 1) := by decide +kernel
theorem d_Member_addBid_40 : decode u_Member_addBid.2.2.1 40 = .ok (.dup, 1) := by decide +kernel
theorem d_Member_addBid_41 : decode u_Member_addBid.2.2.1 41 = .ok (.getfield 44, 3) := by decide +kernel
theorem d_Member_addBid_44 : decode u_Member_addBid.2.2.1 44 = .ok (.iconst 1, 1) := by decide +kernel
theorem d_Member_addBid_45 : decode u_Member_addBid.2.2.1 45 = .ok (.iadd, 1) := by decide +kernel
theorem d_Member_addBid_46 : decode u_Member_addBid.2.2.1 46 = .ok (.putfield 44, 3) := by decide +kernel
theorem d_Member_addBid_49 : decode u_Member_addBid.2.2.1 49 = .ok (.return_, 1) := by decide +kernel
theorem w_Member_addBid : am_code y_Member_addBid u_Member_addBid ∈ am_ws := am_mem (List.mem_of_getElem? (i := 885) (by decide +kernel)) rfl
def e_Member_addBid (M : am_M) (a0 : Nat) (a1 : Int32) (a2 : Int32) (a3 : Int32) : Option (Unit × am_M) := (q_gti M a0 2 7).bind (fun t1 => if (6 : Int32) ≤ t1 then (some ((), M)) else ((q_gtr M a0 2 8).bind (fun t10 => (q_gti M a0 2 7).bind (fun t14 => (q_sti M t10 t14 a1).bind (fun M18 => (q_gtr M18 a0 2 9).bind (fun t20 => (q_gti M18 a0 2 7).bind (fun t24 => (q_sti M18 t20 t24 a2).bind (fun M28 => (q_gtr M28 a0 2 10).bind (fun t30 => (q_gti M28 a0 2 7).bind (fun t34 => (q_sti M28 t30 t34 a3).bind (fun M38 => (q_gti M38 a0 2 7).bind (fun t41 => (q_pti M38 a0 2 7 (t41 + (1 : Int32))).bind (fun M46 => some ((), M46))))))))))))))
def f_Member_addBid (M : am_M) (a0 : Nat) (a1 : Int32) (a2 : Int32) (a3 : Int32) : Option (Unit × am_M) := e_Member_addBid M a0 a1 a2 a3
theorem fl_Member_9 : am_fl "CrewOffice$Member" 9 2 8 := ⟨by decide, by decide, List.mem_of_getElem? (i := 185) (by decide +kernel)⟩
theorem fl_Member_15 : am_fl "CrewOffice$Member" 15 2 9 := ⟨by decide, by decide, List.mem_of_getElem? (i := 187) (by decide +kernel)⟩
theorem fl_Member_18 : am_fl "CrewOffice$Member" 18 2 10 := ⟨by decide, by decide, List.mem_of_getElem? (i := 189) (by decide +kernel)⟩
set_option maxHeartbeats 4000000 in
theorem mt_Member_addBid {M : am_M} {a0 : Nat} {a1 : Int32} {a2 : Int32} {a3 : Int32} {res : Unit} {M' : am_M} (h : f_Member_addBid M a0 a1 a2 a3 = some (res, M')) : AMet y_Member_addBid u_Member_addBid R_Member_addBid [.ref a0, .int a1, .int a2, .int a3] M (fun r M2 => r = .inl none ∧ M2 = M') := by
  refine am_met (by decide +kernel) w_Member_addBid rfl rfl (Nat.le_of_ble_eq_true rfl) ?_
  show AW u_Member_addBid R_Member_addBid 0 0 0 [(0, .ref a0), (1, .int a1), (2, .int a2), (3, .int a3)] [] M (fun r M2 => r = .inl none ∧ M2 = M')
  unfold f_Member_addBid at h
  unfold e_Member_addBid at h
  refine aw_aload_n d_Member_addBid_0 rfl rfl ?_
  obtain ⟨t1, e_t1, h⟩ := q_bind h
  refine aw_gti d_Member_addBid_1 fl_Member_44 (Or.inl rfl) e_t1 ?_
  refine aw_bipush (v := 6) d_Member_addBid_4 (by decide) ?_
  refine aw_icmp_ge (tgt := 49) d_Member_addBid_6 (by decide) (fun hc => ?_) (fun hc => ?_)
  · rw [if_pos hc] at h
    cases h
    exact aw_vreturn d_Member_addBid_49 rfl (Nat.le_of_ble_eq_true rfl) (Nat.le_of_ble_eq_true rfl) ⟨rfl, rfl⟩
  · rw [if_neg hc] at h
    refine aw_aload_n d_Member_addBid_9 rfl rfl ?_
    obtain ⟨t10, e_t10, h⟩ := q_bind h
    refine aw_gtr d_Member_addBid_10 fl_Member_9 (Or.inr ⟨_, rfl⟩) e_t10 ?_
    refine aw_aload_n d_Member_addBid_13 rfl rfl ?_
    obtain ⟨t14, e_t14, h⟩ := q_bind h
    refine aw_gti d_Member_addBid_14 fl_Member_44 (Or.inl rfl) e_t14 ?_
    refine aw_iload_n d_Member_addBid_17 rfl rfl ?_
    obtain ⟨M18, e_M18, h⟩ := q_bind h
    refine aw_sti d_Member_addBid_18 e_M18 ?_
    refine aw_aload_n d_Member_addBid_19 rfl rfl ?_
    obtain ⟨t20, e_t20, h⟩ := q_bind h
    refine aw_gtr d_Member_addBid_20 fl_Member_15 (Or.inr ⟨_, rfl⟩) e_t20 ?_
    refine aw_aload_n d_Member_addBid_23 rfl rfl ?_
    obtain ⟨t24, e_t24, h⟩ := q_bind h
    refine aw_gti d_Member_addBid_24 fl_Member_44 (Or.inl rfl) e_t24 ?_
    refine aw_iload_n d_Member_addBid_27 rfl rfl ?_
    obtain ⟨M28, e_M28, h⟩ := q_bind h
    refine aw_sti d_Member_addBid_28 e_M28 ?_
    refine aw_aload_n d_Member_addBid_29 rfl rfl ?_
    obtain ⟨t30, e_t30, h⟩ := q_bind h
    refine aw_gtr d_Member_addBid_30 fl_Member_18 (Or.inr ⟨_, rfl⟩) e_t30 ?_
    refine aw_aload_n d_Member_addBid_33 rfl rfl ?_
    obtain ⟨t34, e_t34, h⟩ := q_bind h
    refine aw_gti d_Member_addBid_34 fl_Member_44 (Or.inl rfl) e_t34 ?_
    refine aw_iload_n d_Member_addBid_37 rfl rfl ?_
    obtain ⟨M38, e_M38, h⟩ := q_bind h
    refine aw_sti d_Member_addBid_38 e_M38 ?_
    refine aw_aload_n d_Member_addBid_39 rfl rfl ?_
    refine aw_dup d_Member_addBid_40 rfl ?_
    obtain ⟨t41, e_t41, h⟩ := q_bind h
    refine aw_gti d_Member_addBid_41 fl_Member_44 (Or.inl rfl) e_t41 ?_
    refine aw_iconst (v := 1) d_Member_addBid_44 (by decide) ?_
    refine aw_iadd d_Member_addBid_45 ?_
    obtain ⟨M46, e_M46, h⟩ := q_bind h
    refine aw_pti d_Member_addBid_46 fl_Member_44 rfl rfl e_M46 ?_
    cases h
    exact aw_vreturn d_Member_addBid_49 rfl (Nat.le_of_ble_eq_true rfl) (Nat.le_of_ble_eq_true rfl) ⟨rfl, rfl⟩
def y_Member_isOff : MethodName := ⟨"CrewOffice$Member", "isOff", "(II)Z"⟩
def u_Member_isOff : am_U := ("CrewOffice$Member", "isOff", prog_6_method_4_code, 3, (some .boolean), [])
def R_Member_isOff : Room := { frames := 0, cells := 0, slots := 0, locals := 0 }
theorem d_Member_isOff_0 : decode u_Member_isOff.2.2.1 0 = .ok (.aload_n 0, 1) := by decide +kernel
theorem d_Member_isOff_1 : decode u_Member_isOff.2.2.1 1 = .ok (.getfield 38, 3) := by decide +kernel
theorem d_Member_isOff_4 : decode u_Member_isOff.2.2.1 4 = .ok (.aload_n 0, 1) := by decide +kernel
theorem d_Member_isOff_5 : decode u_Member_isOff.2.2.1 5 = .ok (.getfield 41, 3) := by decide +kernel
theorem d_Member_isOff_8 : decode u_Member_isOff.2.2.1 8 = .ok (.if_icmp .ge 23, 3) := by decide +kernel
theorem d_Member_isOff_11 : decode u_Member_isOff.2.2.1 11 = .ok (.iload_n 1, 1) := by decide +kernel
theorem d_Member_isOff_12 : decode u_Member_isOff.2.2.1 12 = .ok (.aload_n 0, 1) := by decide +kernel
theorem d_Member_isOff_13 : decode u_Member_isOff.2.2.1 13 = .ok (.getfield 41, 3) := by decide +kernel
theorem d_Member_isOff_16 : decode u_Member_isOff.2.2.1 16 = .ok (.if_icmp .ge 15, 3) := by decide +kernel
theorem d_Member_isOff_19 : decode u_Member_isOff.2.2.1 19 = .ok (.aload_n 0, 1) := by decide +kernel
theorem d_Member_isOff_20 : decode u_Member_isOff.2.2.1 20 = .ok (.getfield 38, 3) := by decide +kernel
theorem d_Member_isOff_23 : decode u_Member_isOff.2.2.1 23 = .ok (.iload_n 2, 1) := by decide +kernel
theorem d_Member_isOff_24 : decode u_Member_isOff.2.2.1 24 = .ok (.if_icmp .ge 7, 3) := by decide +kernel
theorem d_Member_isOff_27 : decode u_Member_isOff.2.2.1 27 = .ok (.iconst 1, 1) := by decide +kernel
theorem d_Member_isOff_28 : decode u_Member_isOff.2.2.1 28 = .ok (.goto 4, 3) := by decide +kernel
theorem d_Member_isOff_31 : decode u_Member_isOff.2.2.1 31 = .ok (.iconst 0, 1) := by decide +kernel
theorem d_Member_isOff_32 : decode u_Member_isOff.2.2.1 32 = .ok (.ireturn, 1) := by decide +kernel
theorem w_Member_isOff : am_code y_Member_isOff u_Member_isOff ∈ am_ws := am_mem (List.mem_of_getElem? (i := 577) (by decide +kernel)) rfl
def e_Member_isOff (M : am_M) (a0 : Nat) (a1 : Int32) (a2 : Int32) : Option (Int32) := (q_gti M a0 2 5).bind (fun t1 => (q_gti M a0 2 6).bind (fun t5 => if t5 ≤ t1 then (some (0 : Int32)) else ((q_gti M a0 2 6).bind (fun t13 => if t13 ≤ a1 then (some (0 : Int32)) else ((q_gti M a0 2 5).bind (fun t20 => if a2 ≤ t20 then (some (0 : Int32)) else (some (1 : Int32))))))))
def f_Member_isOff (M : am_M) (a0 : Nat) (a1 : Int32) (a2 : Int32) : Option (Int32) := e_Member_isOff M a0 a1 a2
set_option maxHeartbeats 4000000 in
theorem mt_Member_isOff {M : am_M} {a0 : Nat} {a1 : Int32} {a2 : Int32} {res : Int32} (h : f_Member_isOff M a0 a1 a2 = some res) : AMet y_Member_isOff u_Member_isOff R_Member_isOff [.ref a0, .int a1, .int a2] M (fun r M2 => r = .inl (some (.int res)) ∧ M2 = M) := by
  refine am_met (by decide +kernel) w_Member_isOff rfl rfl (Nat.le_of_ble_eq_true rfl) ?_
  show AW u_Member_isOff R_Member_isOff 0 0 0 [(0, .ref a0), (1, .int a1), (2, .int a2)] [] M (fun r M2 => r = .inl (some (.int res)) ∧ M2 = M)
  unfold f_Member_isOff at h
  unfold e_Member_isOff at h
  refine aw_aload_n d_Member_isOff_0 rfl rfl ?_
  obtain ⟨t1, e_t1, h⟩ := q_bind h
  refine aw_gti d_Member_isOff_1 fl_Member_38 (Or.inl rfl) e_t1 ?_
  refine aw_aload_n d_Member_isOff_4 rfl rfl ?_
  obtain ⟨t5, e_t5, h⟩ := q_bind h
  refine aw_gti d_Member_isOff_5 fl_Member_41 (Or.inl rfl) e_t5 ?_
  refine aw_icmp_ge (tgt := 31) d_Member_isOff_8 (by decide) (fun hc => ?_) (fun hc => ?_)
  · rw [if_pos hc] at h
    refine aw_iconst (v := 0) d_Member_isOff_31 (by decide) ?_
    cases h
    exact aw_zreturn d_Member_isOff_32 rfl (by decide) (Nat.le_of_ble_eq_true rfl) (Nat.le_of_ble_eq_true rfl) ⟨rfl, rfl⟩
  · rw [if_neg hc] at h
    refine aw_iload_n d_Member_isOff_11 rfl rfl ?_
    refine aw_aload_n d_Member_isOff_12 rfl rfl ?_
    obtain ⟨t13, e_t13, h⟩ := q_bind h
    refine aw_gti d_Member_isOff_13 fl_Member_41 (Or.inl rfl) e_t13 ?_
    refine aw_icmp_ge (tgt := 31) d_Member_isOff_16 (by decide) (fun hc => ?_) (fun hc => ?_)
    · rw [if_pos hc] at h
      refine aw_iconst (v := 0) d_Member_isOff_31 (by decide) ?_
      cases h
      exact aw_zreturn d_Member_isOff_32 rfl (by decide) (Nat.le_of_ble_eq_true rfl) (Nat.le_of_ble_eq_true rfl) ⟨rfl, rfl⟩
    · rw [if_neg hc] at h
      refine aw_aload_n d_Member_isOff_19 rfl rfl ?_
      obtain ⟨t20, e_t20, h⟩ := q_bind h
      refine aw_gti d_Member_isOff_20 fl_Member_38 (Or.inl rfl) e_t20 ?_
      refine aw_iload_n d_Member_isOff_23 rfl rfl ?_
      refine aw_icmp_ge (tgt := 31) d_Member_isOff_24 (by decide) (fun hc => ?_) (fun hc => ?_)
      · rw [if_pos hc] at h
        refine aw_iconst (v := 0) d_Member_isOff_31 (by decide) ?_
        cases h
        exact aw_zreturn d_Member_isOff_32 rfl (by decide) (Nat.le_of_ble_eq_true rfl) (Nat.le_of_ble_eq_true rfl) ⟨rfl, rfl⟩
      · rw [if_neg hc] at h
        refine aw_iconst (v := 1) d_Member_isOff_27 (by decide) ?_
        refine aw_goto (tgt := 32) d_Member_isOff_28 (by decide) ?_
        cases h
        exact aw_zreturn d_Member_isOff_32 rfl (by decide) (Nat.le_of_ble_eq_true rfl) (Nat.le_of_ble_eq_true rfl) ⟨rfl, rfl⟩
def y_Member_leastOwnBroken : MethodName := ⟨"CrewOffice$Member", "leastOwnBroken", "(LCrewOffice$Work;I)I"⟩
def u_Member_leastOwnBroken : am_U := ("CrewOffice$Member", "leastOwnBroken", prog_6_method_5_code, 3, (some .int), [])
def R_Member_leastOwnBroken : Room := { frames := 1, cells := 0, slots := 0, locals := 22 }
theorem d_Member_leastOwnBroken_0 : decode u_Member_leastOwnBroken.2.2.1 0 = .ok (.aload_n 1, 1) := by decide +kernel
theorem d_Member_leastOwnBroken_1 : decode u_Member_leastOwnBroken.2.2.1 1 = .ok (.getfield 47, 3) := by decide +kernel
theorem d_Member_leastOwnBroken_4 : decode u_Member_leastOwnBroken.2.2.1 4 = .ok (.aload_n 0, 1) := by decide +kernel
theorem d_Member_leastOwnBroken_5 : decode u_Member_leastOwnBroken.2.2.1 5 = .ok (.getfield 32, 3) := by decide +kernel
theorem d_Member_leastOwnBroken_8 : decode u_Member_leastOwnBroken.2.2.1 8 = .ok (.iconst (-1), 1) := by decide +kernel
theorem d_Member_leastOwnBroken_9 : decode u_Member_leastOwnBroken.2.2.1 9 = .ok (.ixor, 1) := by decide +kernel
theorem d_Member_leastOwnBroken_10 : decode u_Member_leastOwnBroken.2.2.1 10 = .ok (.iand, 1) := by decide +kernel
theorem d_Member_leastOwnBroken_11 : decode u_Member_leastOwnBroken.2.2.1 11 = .ok (.ifCond .eq 6, 3) := by decide +kernel
theorem d_Member_leastOwnBroken_14 : decode u_Member_leastOwnBroken.2.2.1 14 = .ok (.bipush 10, 2) := by decide +kernel
theorem d_Member_leastOwnBroken_16 : decode u_Member_leastOwnBroken.2.2.1 16 = .ok (.ireturn, 1) := by decide +kernel
theorem d_Member_leastOwnBroken_17 : decode u_Member_leastOwnBroken.2.2.1 17 = .ok (.aload_n 0, 1) := by decide +kernel
theorem d_Member_leastOwnBroken_18 : decode u_Member_leastOwnBroken.2.2.1 18 = .ok (.aload_n 1, 1) := by decide +kernel
theorem d_Member_leastOwnBroken_19 : decode u_Member_leastOwnBroken.2.2.1 19 = .ok (.getfield 50, 3) := by decide +kernel
theorem d_Member_leastOwnBroken_22 : decode u_Member_leastOwnBroken.2.2.1 22 = .ok (.aload_n 1, 1) := by decide +kernel
theorem d_Member_leastOwnBroken_23 : decode u_Member_leastOwnBroken.2.2.1 23 = .ok (.getfield 53, 3) := by decide +kernel
theorem d_Member_leastOwnBroken_26 : decode u_Member_leastOwnBroken.2.2.1 26 = .ok (.invokevirtual 56, 3) := by decide +kernel
theorem d_Member_leastOwnBroken_29 : decode u_Member_leastOwnBroken.2.2.1 29 = .ok (.ifCond .eq 6, 3) := by decide +kernel
theorem d_Member_leastOwnBroken_32 : decode u_Member_leastOwnBroken.2.2.1 32 = .ok (.bipush 11, 2) := by decide +kernel
theorem d_Member_leastOwnBroken_34 : decode u_Member_leastOwnBroken.2.2.1 34 = .ok (.ireturn, 1) := by decide +kernel
theorem d_Member_leastOwnBroken_35 : decode u_Member_leastOwnBroken.2.2.1 35 = .ok (.aload_n 0, 1) := by decide +kernel
theorem d_Member_leastOwnBroken_36 : decode u_Member_leastOwnBroken.2.2.1 36 = .ok (.getfield 35, 3) := by decide +kernel
theorem d_Member_leastOwnBroken_39 : decode u_Member_leastOwnBroken.2.2.1 39 = .ok (.aload_n 1, 1) := by decide +kernel
theorem d_Member_leastOwnBroken_40 : decode u_Member_leastOwnBroken.2.2.1 40 = .ok (.getfield 60, 3) := by decide +kernel
theorem d_Member_leastOwnBroken_43 : decode u_Member_leastOwnBroken.2.2.1 43 = .ok (.iadd, 1) := by decide +kernel
theorem d_Member_leastOwnBroken_44 : decode u_Member_leastOwnBroken.2.2.1 44 = .ok (.iload_n 2, 1) := by decide +kernel
theorem d_Member_leastOwnBroken_45 : decode u_Member_leastOwnBroken.2.2.1 45 = .ok (.if_icmp .le 8, 3) := by decide +kernel
theorem d_Member_leastOwnBroken_48 : decode u_Member_leastOwnBroken.2.2.1 48 = .ok (.bipush 12, 2) := by decide +kernel
theorem d_Member_leastOwnBroken_50 : decode u_Member_leastOwnBroken.2.2.1 50 = .ok (.goto 4, 3) := by decide +kernel
theorem d_Member_leastOwnBroken_53 : decode u_Member_leastOwnBroken.2.2.1 53 = .ok (.iconst 0, 1) := by decide +kernel
theorem d_Member_leastOwnBroken_54 : decode u_Member_leastOwnBroken.2.2.1 54 = .ok (.ireturn, 1) := by decide +kernel
theorem w_Member_leastOwnBroken : am_code y_Member_leastOwnBroken u_Member_leastOwnBroken ∈ am_ws := am_mem (List.mem_of_getElem? (i := 573) (by decide +kernel)) rfl
def e_Member_leastOwnBroken (M : am_M) (a0 : Nat) (a1 : Nat) (a2 : Int32) : Option (Int32) := (q_gti M a1 4 6).bind (fun t1 => (q_gti M a0 2 3).bind (fun t5 => if (t1 &&& (t5 ^^^ (-1 : Int32))) = 0 then ((q_gti M a1 4 3).bind (fun t19 => (q_gti M a1 4 4).bind (fun t23 => (q_ob M a0 2).bind (fun o26 => (f_Member_isOff M a0 t19 t23).bind (fun t26 => if t26 = 0 then ((q_gti M a0 2 4).bind (fun t36 => (q_gti M a1 4 5).bind (fun t40 => if (t36 + t40) ≤ a2 then (some (0 : Int32)) else (some (12 : Int32))))) else (some (11 : Int32))))))) else (some (10 : Int32))))
def f_Member_leastOwnBroken (M : am_M) (a0 : Nat) (a1 : Nat) (a2 : Int32) : Option (Int32) := e_Member_leastOwnBroken M a0 a1 a2
theorem fl_Member_47 : am_fl "CrewOffice$Member" 47 4 6 := ⟨by decide, by decide, List.mem_of_getElem? (i := 289) (by decide +kernel)⟩
theorem fl_Member_50 : am_fl "CrewOffice$Member" 50 4 3 := ⟨by decide, by decide, List.mem_of_getElem? (i := 273) (by decide +kernel)⟩
theorem fl_Member_53 : am_fl "CrewOffice$Member" 53 4 4 := ⟨by decide, by decide, List.mem_of_getElem? (i := 279) (by decide +kernel)⟩
theorem fl_Member_60 : am_fl "CrewOffice$Member" 60 4 5 := ⟨by decide, by decide, List.mem_of_getElem? (i := 285) (by decide +kernel)⟩
theorem kV_Member_56 : am_kV "CrewOffice$Member" 56 2 y_Member_isOff u_Member_isOff 2 := ⟨List.mem_of_getElem? (i := 574) (by decide +kernel), ⟨List.mem_of_getElem? (i := 575) (by decide +kernel), List.mem_of_getElem? (i := 576) (by decide +kernel)⟩, List.mem_of_getElem? (i := 58) (by decide +kernel), w_Member_isOff, ⟨⟨by decide +kernel, by decide +kernel⟩, by decide +kernel⟩⟩
set_option maxHeartbeats 4000000 in
theorem mt_Member_leastOwnBroken {M : am_M} {a0 : Nat} {a1 : Nat} {a2 : Int32} {res : Int32} (h : f_Member_leastOwnBroken M a0 a1 a2 = some res) : AMet y_Member_leastOwnBroken u_Member_leastOwnBroken R_Member_leastOwnBroken [.ref a0, .ref a1, .int a2] M (fun r M2 => r = .inl (some (.int res)) ∧ M2 = M) := by
  refine am_met (by decide +kernel) w_Member_leastOwnBroken rfl rfl (Nat.le_of_ble_eq_true rfl) ?_
  show AW u_Member_leastOwnBroken R_Member_leastOwnBroken 0 0 0 [(0, .ref a0), (1, .ref a1), (2, .int a2)] [] M (fun r M2 => r = .inl (some (.int res)) ∧ M2 = M)
  unfold f_Member_leastOwnBroken at h
  unfold e_Member_leastOwnBroken at h
  refine aw_aload_n d_Member_leastOwnBroken_0 rfl rfl ?_
  obtain ⟨t1, e_t1, h⟩ := q_bind h
  refine aw_gti d_Member_leastOwnBroken_1 fl_Member_47 (Or.inl rfl) e_t1 ?_
  refine aw_aload_n d_Member_leastOwnBroken_4 rfl rfl ?_
  obtain ⟨t5, e_t5, h⟩ := q_bind h
  refine aw_gti d_Member_leastOwnBroken_5 fl_Member_32 (Or.inl rfl) e_t5 ?_
  refine aw_iconst (v := -1) d_Member_leastOwnBroken_8 (by decide) ?_
  refine aw_ixor d_Member_leastOwnBroken_9 ?_
  refine aw_iand d_Member_leastOwnBroken_10 ?_
  refine aw_if_eq (tgt := 17) d_Member_leastOwnBroken_11 (by decide) (fun hc => ?_) (fun hc => ?_)
  · rw [if_pos hc] at h
    refine aw_aload_n d_Member_leastOwnBroken_17 rfl rfl ?_
    refine aw_aload_n d_Member_leastOwnBroken_18 rfl rfl ?_
    obtain ⟨t19, e_t19, h⟩ := q_bind h
    refine aw_gti d_Member_leastOwnBroken_19 fl_Member_50 (Or.inl rfl) e_t19 ?_
    refine aw_aload_n d_Member_leastOwnBroken_22 rfl rfl ?_
    obtain ⟨t23, e_t23, h⟩ := q_bind h
    refine aw_gti d_Member_leastOwnBroken_23 fl_Member_53 (Or.inl rfl) e_t23 ?_
    obtain ⟨o26, e_o26, h⟩ := q_bind h
    obtain ⟨t26, e_t26, h⟩ := q_bind h
    refine aw_cV (v := (some (.int t26))) (As := [.int t19, .int t23]) (rest := []) (st' := [.int t26]) d_Member_leastOwnBroken_26 kV_Member_56 (q_ob_spec e_o26).1 (q_ob_spec e_o26).2 ⟨Nat.le_of_ble_eq_true rfl, Nat.le_of_ble_eq_true rfl, Nat.le_of_ble_eq_true rfl, Nat.le_of_ble_eq_true rfl⟩ rfl rfl (Nat.le_of_ble_eq_true rfl) rfl (mt_Member_isOff e_t26) ?_
    refine aw_if_eq (tgt := 35) d_Member_leastOwnBroken_29 (by decide) (fun hc => ?_) (fun hc => ?_)
    · rw [if_pos hc] at h
      refine aw_aload_n d_Member_leastOwnBroken_35 rfl rfl ?_
      obtain ⟨t36, e_t36, h⟩ := q_bind h
      refine aw_gti d_Member_leastOwnBroken_36 fl_Member_35 (Or.inl rfl) e_t36 ?_
      refine aw_aload_n d_Member_leastOwnBroken_39 rfl rfl ?_
      obtain ⟨t40, e_t40, h⟩ := q_bind h
      refine aw_gti d_Member_leastOwnBroken_40 fl_Member_60 (Or.inl rfl) e_t40 ?_
      refine aw_iadd d_Member_leastOwnBroken_43 ?_
      refine aw_iload_n d_Member_leastOwnBroken_44 rfl rfl ?_
      refine aw_icmp_le (tgt := 53) d_Member_leastOwnBroken_45 (by decide) (fun hc => ?_) (fun hc => ?_)
      · rw [if_pos hc] at h
        refine aw_iconst (v := 0) d_Member_leastOwnBroken_53 (by decide) ?_
        cases h
        exact aw_ireturn d_Member_leastOwnBroken_54 rfl (Nat.le_of_ble_eq_true rfl) (Nat.le_of_ble_eq_true rfl) ⟨rfl, rfl⟩
      · rw [if_neg hc] at h
        refine aw_bipush (v := 12) d_Member_leastOwnBroken_48 (by decide) ?_
        refine aw_goto (tgt := 54) d_Member_leastOwnBroken_50 (by decide) ?_
        cases h
        exact aw_ireturn d_Member_leastOwnBroken_54 rfl (Nat.le_of_ble_eq_true rfl) (Nat.le_of_ble_eq_true rfl) ⟨rfl, rfl⟩
    · rw [if_neg hc] at h
      refine aw_bipush (v := 11) d_Member_leastOwnBroken_32 (by decide) ?_
      cases h
      exact aw_ireturn d_Member_leastOwnBroken_34 rfl (Nat.le_of_ble_eq_true rfl) (Nat.le_of_ble_eq_true rfl) ⟨rfl, rfl⟩
  · rw [if_neg hc] at h
    refine aw_bipush (v := 10) d_Member_leastOwnBroken_14 (by decide) ?_
    cases h
    exact aw_ireturn d_Member_leastOwnBroken_16 rfl (Nat.le_of_ble_eq_true rfl) (Nat.le_of_ble_eq_true rfl) ⟨rfl, rfl⟩
def y_Plan_flightsThere : MethodName := ⟨"CrewOffice$Plan", "flightsThere", "()I"⟩
def u_Plan_flightsThere : am_U := ("CrewOffice$Plan", "flightsThere", prog_7_method_2_code, 3, (some .int), [])
def R_Plan_flightsThere : Room := { frames := 0, cells := 0, slots := 0, locals := 0 }
theorem d_Plan_flightsThere_0 : decode u_Plan_flightsThere.2.2.1 0 = .ok (.iconst 0, 1) := by decide +kernel
theorem d_Plan_flightsThere_1 : decode u_Plan_flightsThere.2.2.1 1 = .ok (.istore_n 1, 1) := by decide +kernel
theorem d_Plan_flightsThere_2 : decode u_Plan_flightsThere.2.2.1 2 = .ok (.iconst 0, 1) := by decide +kernel
theorem d_Plan_flightsThere_3 : decode u_Plan_flightsThere.2.2.1 3 = .ok (.istore_n 2, 1) := by decide +kernel
theorem d_Plan_flightsThere_4 : decode u_Plan_flightsThere.2.2.1 4 = .ok (.iload_n 2, 1) := by decide +kernel
theorem d_Plan_flightsThere_5 : decode u_Plan_flightsThere.2.2.1 5 = .ok (.bipush 12, 2) := by decide +kernel
theorem d_Plan_flightsThere_7 : decode u_Plan_flightsThere.2.2.1 7 = .ok (.if_icmp .ge 31, 3) := by decide +kernel
theorem d_Plan_flightsThere_10 : decode u_Plan_flightsThere.2.2.1 10 = .ok (.iload_n 1, 1) := by decide +kernel
theorem d_Plan_flightsThere_11 : decode u_Plan_flightsThere.2.2.1 11 = .ok (.aload_n 0, 1) := by decide +kernel
theorem d_Plan_flightsThere_12 : decode u_Plan_flightsThere.2.2.1 12 = .ok (.getfield 19, 3) := by decide +kernel
theorem d_Plan_flightsThere_15 : decode u_Plan_flightsThere.2.2.1 15 = .ok (.iload_n 2, 1) := by decide +kernel
theorem d_Plan_flightsThere_16 : decode u_Plan_flightsThere.2.2.1 16 = .ok (.aaload, 1) := by decide +kernel
theorem d_Plan_flightsThere_17 : decode u_Plan_flightsThere.2.2.1 17 = .ok (.getfield 55, 3) := by decide +kernel
theorem d_Plan_flightsThere_20 : decode u_Plan_flightsThere.2.2.1 20 = .ok (.ifCond .eq 9, 3) := by decide +kernel
theorem d_Plan_flightsThere_23 : decode u_Plan_flightsThere.2.2.1 23 = .ok (.iconst 1, 1) := by decide +kernel
theorem d_Plan_flightsThere_24 : decode u_Plan_flightsThere.2.2.1 24 = .ok (.iload_n 2, 1) := by decide +kernel
theorem d_Plan_flightsThere_25 : decode u_Plan_flightsThere.2.2.1 25 = .ok (.ishl, 1) := by decide +kernel
theorem d_Plan_flightsThere_26 : decode u_Plan_flightsThere.2.2.1 26 = .ok (.goto 4, 3) := by decide +kernel
theorem d_Plan_flightsThere_29 : decode u_Plan_flightsThere.2.2.1 29 = .ok (.iconst 0, 1) := by decide +kernel
theorem d_Plan_flightsThere_30 : decode u_Plan_flightsThere.2.2.1 30 = .ok (.ior, 1) := by decide +kernel
theorem d_Plan_flightsThere_31 : decode u_Plan_flightsThere.2.2.1 31 = .ok (.istore_n 1, 1) := by decide +kernel
theorem d_Plan_flightsThere_32 : decode u_Plan_flightsThere.2.2.1 32 = .ok (.iinc 2 1, 3) := by decide +kernel
theorem d_Plan_flightsThere_35 : decode u_Plan_flightsThere.2.2.1 35 = .ok (.goto (-31), 3) := by decide +kernel
theorem d_Plan_flightsThere_38 : decode u_Plan_flightsThere.2.2.1 38 = .ok (.iload_n 1, 1) := by decide +kernel
theorem d_Plan_flightsThere_39 : decode u_Plan_flightsThere.2.2.1 39 = .ok (.ireturn, 1) := by decide +kernel
theorem w_Plan_flightsThere : am_code y_Plan_flightsThere u_Plan_flightsThere ∈ am_ws := am_mem (List.mem_of_getElem? (i := 603) (by decide +kernel)) rfl
def a_Plan_flightsThere_0 (rc : Nat → Nat → Int32 → Int32 → Int32 → Int32 → am_M → Option (Int32)) (r0 : Nat) (x1 : Int32) (x2 : Int32) (s0 : Int32) (s1 : Int32) (M : am_M) : Option (Int32) := if (12 : Int32) ≤ x2 then (some x1) else ((q_gtr M r0 3 1).bind (fun t12 => (q_ldr M t12 x2).bind (fun t16 => (q_gti M t16 1 0).bind (fun t17 => if t17 = 0 then (rc 1 r0 0 x2 (0 : Int32) x1 M) else (rc 1 r0 0 x2 ((1 : Int32) <<< (x2 &&& 31)) x1 M)))))
def a_Plan_flightsThere_1 (rc : Nat → Nat → Int32 → Int32 → Int32 → Int32 → am_M → Option (Int32)) (r0 : Nat) (x1 : Int32) (x2 : Int32) (s0 : Int32) (s1 : Int32) (M : am_M) : Option (Int32) := rc 0 r0 (s1 ||| s0) (x2 + (1 : Int32)) 0 0 M
def g_Plan_flightsThere : Nat → Nat → Nat → Int32 → Int32 → Int32 → Int32 → am_M → Option (Int32)
  | 0, _, _, _, _, _, _, _ => none
  | F + 1, 0, r0, x1, x2, s0, s1, M => a_Plan_flightsThere_0 (g_Plan_flightsThere F) r0 x1 x2 s0 s1 M
  | F + 1, 1, r0, x1, x2, s0, s1, M => a_Plan_flightsThere_1 (g_Plan_flightsThere F) r0 x1 x2 s0 s1 M
  | _ + 1, _ + 2, _, _, _, _, _, _ => none
def e_Plan_flightsThere (rc : Nat → Nat → Int32 → Int32 → Int32 → Int32 → am_M → Option (Int32)) (M : am_M) (a0 : Nat) : Option (Int32) := rc 0 a0 (0 : Int32) (0 : Int32) 0 0 M
def f_Plan_flightsThere (M : am_M) (a0 : Nat) : Option (Int32) := e_Plan_flightsThere (g_Plan_flightsThere 1000000000) M a0
theorem fl_Plan_19 : am_fl "CrewOffice$Plan" 19 3 1 := ⟨by decide, by decide, List.mem_of_getElem? (i := 220) (by decide +kernel)⟩
theorem fl_Plan_55 : am_fl "CrewOffice$Plan" 55 1 0 := ⟨by decide, by decide, List.mem_of_getElem? (i := 128) (by decide +kernel)⟩
set_option maxHeartbeats 4000000 in
theorem s_Plan_flightsThere_0 {rc : Nat → Nat → Int32 → Int32 → Int32 → Int32 → am_M → Option (Int32)} {res : Int32} (ih_0 : ∀ (r0 : Nat) (x1 : Int32) (x2 : Int32) (s0 : Int32) (s1 : Int32) (M : am_M), rc 0 r0 x1 x2 s0 s1 M = some res → AW u_Plan_flightsThere R_Plan_flightsThere 0 0 4 [(0, .ref r0), (1, .int x1), (2, .int x2)] [] M (fun r M2 => r = .inl (some (.int res)) ∧ M2 = M)) (ih_1 : ∀ (r0 : Nat) (x1 : Int32) (x2 : Int32) (s0 : Int32) (s1 : Int32) (M : am_M), rc 1 r0 x1 x2 s0 s1 M = some res → AW u_Plan_flightsThere R_Plan_flightsThere 0 0 30 [(0, .ref r0), (2, .int x2)] [.int s0, .int s1] M (fun r M2 => r = .inl (some (.int res)) ∧ M2 = M)) : ∀ (r0 : Nat) (x1 : Int32) (x2 : Int32) (s0 : Int32) (s1 : Int32) (M : am_M), a_Plan_flightsThere_0 rc r0 x1 x2 s0 s1 M = some res → AW u_Plan_flightsThere R_Plan_flightsThere 0 0 4 [(0, .ref r0), (1, .int x1), (2, .int x2)] [] M (fun r M2 => r = .inl (some (.int res)) ∧ M2 = M) := by
  intro r0 x1 x2 s0 s1 M h
  unfold a_Plan_flightsThere_0 at h
  refine aw_iload_n d_Plan_flightsThere_4 rfl rfl ?_
  refine aw_bipush (v := 12) d_Plan_flightsThere_5 (by decide) ?_
  refine aw_icmp_ge (tgt := 38) d_Plan_flightsThere_7 (by decide) (fun hc => ?_) (fun hc => ?_)
  · rw [if_pos hc] at h
    refine aw_iload_n d_Plan_flightsThere_38 rfl rfl ?_
    cases h
    exact aw_ireturn d_Plan_flightsThere_39 rfl (Nat.le_of_ble_eq_true rfl) (Nat.le_of_ble_eq_true rfl) ⟨rfl, rfl⟩
  · rw [if_neg hc] at h
    refine aw_iload_n d_Plan_flightsThere_10 rfl rfl ?_
    refine aw_aload_n d_Plan_flightsThere_11 rfl rfl ?_
    obtain ⟨t12, e_t12, h⟩ := q_bind h
    refine aw_gtr d_Plan_flightsThere_12 fl_Plan_19 (Or.inr ⟨_, rfl⟩) e_t12 ?_
    refine aw_iload_n d_Plan_flightsThere_15 rfl rfl ?_
    obtain ⟨t16, e_t16, h⟩ := q_bind h
    refine aw_ldr d_Plan_flightsThere_16 e_t16 ?_
    obtain ⟨t17, e_t17, h⟩ := q_bind h
    refine aw_gti d_Plan_flightsThere_17 fl_Plan_55 (Or.inr rfl) e_t17 ?_
    refine aw_if_eq (tgt := 29) d_Plan_flightsThere_20 (by decide) (fun hc => ?_) (fun hc => ?_)
    · rw [if_pos hc] at h
      refine aw_iconst (v := 0) d_Plan_flightsThere_29 (by decide) ?_
      exact aw_pick [0, 2] rfl (ih_1 _ _ _ _ _ _ h)
    · rw [if_neg hc] at h
      refine aw_iconst (v := 1) d_Plan_flightsThere_23 (by decide) ?_
      refine aw_iload_n d_Plan_flightsThere_24 rfl rfl ?_
      refine aw_ishl d_Plan_flightsThere_25 ?_
      refine aw_goto (tgt := 30) d_Plan_flightsThere_26 (by decide) ?_
      exact aw_pick [0, 2] rfl (ih_1 _ _ _ _ _ _ h)
set_option maxHeartbeats 4000000 in
theorem s_Plan_flightsThere_1 {rc : Nat → Nat → Int32 → Int32 → Int32 → Int32 → am_M → Option (Int32)} {res : Int32} (ih_0 : ∀ (r0 : Nat) (x1 : Int32) (x2 : Int32) (s0 : Int32) (s1 : Int32) (M : am_M), rc 0 r0 x1 x2 s0 s1 M = some res → AW u_Plan_flightsThere R_Plan_flightsThere 0 0 4 [(0, .ref r0), (1, .int x1), (2, .int x2)] [] M (fun r M2 => r = .inl (some (.int res)) ∧ M2 = M)) (ih_1 : ∀ (r0 : Nat) (x1 : Int32) (x2 : Int32) (s0 : Int32) (s1 : Int32) (M : am_M), rc 1 r0 x1 x2 s0 s1 M = some res → AW u_Plan_flightsThere R_Plan_flightsThere 0 0 30 [(0, .ref r0), (2, .int x2)] [.int s0, .int s1] M (fun r M2 => r = .inl (some (.int res)) ∧ M2 = M)) : ∀ (r0 : Nat) (x1 : Int32) (x2 : Int32) (s0 : Int32) (s1 : Int32) (M : am_M), a_Plan_flightsThere_1 rc r0 x1 x2 s0 s1 M = some res → AW u_Plan_flightsThere R_Plan_flightsThere 0 0 30 [(0, .ref r0), (2, .int x2)] [.int s0, .int s1] M (fun r M2 => r = .inl (some (.int res)) ∧ M2 = M) := by
  intro r0 x1 x2 s0 s1 M h
  unfold a_Plan_flightsThere_1 at h
  refine aw_ior d_Plan_flightsThere_30 ?_
  refine aw_istore_n (ls' := [(1, .int _), (0, .ref _), (2, .int _)]) d_Plan_flightsThere_31 rfl (Nat.le_of_ble_eq_true rfl) rfl ?_
  refine aw_iinc (v := (x2 + (1 : Int32))) (ls' := [(2, .int _), (1, .int _), (0, .ref _)]) d_Plan_flightsThere_32 rfl rfl (Nat.le_of_ble_eq_true rfl) rfl ?_
  refine aw_goto (tgt := 4) d_Plan_flightsThere_35 (by decide) ?_
  exact aw_pick [2, 1, 0] rfl (ih_0 _ _ _ _ _ _ h)
theorem l_Plan_flightsThere {res : Int32} : ∀ F : Nat, (∀ (r0 : Nat) (x1 : Int32) (x2 : Int32) (s0 : Int32) (s1 : Int32) (M : am_M), g_Plan_flightsThere F 0 r0 x1 x2 s0 s1 M = some res → AW u_Plan_flightsThere R_Plan_flightsThere 0 0 4 [(0, .ref r0), (1, .int x1), (2, .int x2)] [] M (fun r M2 => r = .inl (some (.int res)) ∧ M2 = M)) ∧ (∀ (r0 : Nat) (x1 : Int32) (x2 : Int32) (s0 : Int32) (s1 : Int32) (M : am_M), g_Plan_flightsThere F 1 r0 x1 x2 s0 s1 M = some res → AW u_Plan_flightsThere R_Plan_flightsThere 0 0 30 [(0, .ref r0), (2, .int x2)] [.int s0, .int s1] M (fun r M2 => r = .inl (some (.int res)) ∧ M2 = M)) := by
  intro F
  induction F with
  | zero => exact ⟨fun _ _ _ _ _ _  h => (by cases h), fun _ _ _ _ _ _  h => (by cases h)⟩
  | succ F ih =>
    obtain ⟨ih0, ih1⟩ := ih
    exact ⟨s_Plan_flightsThere_0 ih0 ih1, s_Plan_flightsThere_1 ih0 ih1⟩
set_option maxHeartbeats 4000000 in
theorem mt_Plan_flightsThere {M : am_M} {a0 : Nat} {res : Int32} (h : f_Plan_flightsThere M a0 = some res) : AMet y_Plan_flightsThere u_Plan_flightsThere R_Plan_flightsThere [.ref a0] M (fun r M2 => r = .inl (some (.int res)) ∧ M2 = M) := by
  refine am_met (by decide +kernel) w_Plan_flightsThere rfl rfl (Nat.le_of_ble_eq_true rfl) ?_
  show AW u_Plan_flightsThere R_Plan_flightsThere 0 0 0 [(0, .ref a0)] [] M (fun r M2 => r = .inl (some (.int res)) ∧ M2 = M)
  have ih_0 := (l_Plan_flightsThere (res := res) 1000000000).1
  have ih_1 := (l_Plan_flightsThere (res := res) 1000000000).2
  unfold f_Plan_flightsThere at h
  unfold e_Plan_flightsThere at h
  generalize g_Plan_flightsThere 1000000000 = rc at h ih_0 ih_1
  refine aw_iconst (v := 0) d_Plan_flightsThere_0 (by decide) ?_
  refine aw_istore_n (ls' := [(1, .int _), (0, .ref _)]) d_Plan_flightsThere_1 rfl (Nat.le_of_ble_eq_true rfl) rfl ?_
  refine aw_iconst (v := 0) d_Plan_flightsThere_2 (by decide) ?_
  refine aw_istore_n (ls' := [(2, .int _), (1, .int _), (0, .ref _)]) d_Plan_flightsThere_3 rfl (Nat.le_of_ble_eq_true rfl) rfl ?_
  exact aw_pick [2, 1, 0] rfl (ih_0 _ _ _ _ _ _ h)
def y_Plan_countMembers : MethodName := ⟨"CrewOffice$Plan", "countMembers", "()I"⟩
def u_Plan_countMembers : am_U := ("CrewOffice$Plan", "countMembers", prog_7_method_3_code, 3, (some .int), [])
def R_Plan_countMembers : Room := { frames := 0, cells := 0, slots := 0, locals := 0 }
theorem d_Plan_countMembers_0 : decode u_Plan_countMembers.2.2.1 0 = .ok (.iconst 0, 1) := by decide +kernel
theorem d_Plan_countMembers_1 : decode u_Plan_countMembers.2.2.1 1 = .ok (.istore_n 1, 1) := by decide +kernel
theorem d_Plan_countMembers_2 : decode u_Plan_countMembers.2.2.1 2 = .ok (.iconst 0, 1) := by decide +kernel
theorem d_Plan_countMembers_3 : decode u_Plan_countMembers.2.2.1 3 = .ok (.istore_n 2, 1) := by decide +kernel
theorem d_Plan_countMembers_4 : decode u_Plan_countMembers.2.2.1 4 = .ok (.iload_n 2, 1) := by decide +kernel
theorem d_Plan_countMembers_5 : decode u_Plan_countMembers.2.2.1 5 = .ok (.iconst 4, 1) := by decide +kernel
theorem d_Plan_countMembers_6 : decode u_Plan_countMembers.2.2.1 6 = .ok (.if_icmp .ge 29, 3) := by decide +kernel
theorem d_Plan_countMembers_9 : decode u_Plan_countMembers.2.2.1 9 = .ok (.iload_n 1, 1) := by decide +kernel
theorem d_Plan_countMembers_10 : decode u_Plan_countMembers.2.2.1 10 = .ok (.aload_n 0, 1) := by decide +kernel
theorem d_Plan_countMembers_11 : decode u_Plan_countMembers.2.2.1 11 = .ok (.getfield 25, 3) := by decide +kernel
theorem d_Plan_countMembers_14 : decode u_Plan_countMembers.2.2.1 14 = .ok (.iload_n 2, 1) := by decide +kernel
theorem d_Plan_countMembers_15 : decode u_Plan_countMembers.2.2.1 15 = .ok (.aaload, 1) := by decide +kernel
theorem d_Plan_countMembers_16 : decode u_Plan_countMembers.2.2.1 16 = .ok (.getfield 59, 3) := by decide +kernel
theorem d_Plan_countMembers_19 : decode u_Plan_countMembers.2.2.1 19 = .ok (.ifCond .eq 7, 3) := by decide +kernel
theorem d_Plan_countMembers_22 : decode u_Plan_countMembers.2.2.1 22 = .ok (.iconst 1, 1) := by decide +kernel
theorem d_Plan_countMembers_23 : decode u_Plan_countMembers.2.2.1 23 = .ok (.goto 4, 3) := by decide +kernel
theorem d_Plan_countMembers_26 : decode u_Plan_countMembers.2.2.1 26 = .ok (.iconst 0, 1) := by decide +kernel
theorem d_Plan_countMembers_27 : decode u_Plan_countMembers.2.2.1 27 = .ok (.iadd, 1) := by decide +kernel
theorem d_Plan_countMembers_28 : decode u_Plan_countMembers.2.2.1 28 = .ok (.istore_n 1, 1) := by decide +kernel
theorem d_Plan_countMembers_29 : decode u_Plan_countMembers.2.2.1 29 = .ok (.iinc 2 1, 3) := by decide +kernel
theorem d_Plan_countMembers_32 : decode u_Plan_countMembers.2.2.1 32 = .ok (.goto (-28), 3) := by decide +kernel
theorem d_Plan_countMembers_35 : decode u_Plan_countMembers.2.2.1 35 = .ok (.iload_n 1, 1) := by decide +kernel
theorem d_Plan_countMembers_36 : decode u_Plan_countMembers.2.2.1 36 = .ok (.ireturn, 1) := by decide +kernel
theorem w_Plan_countMembers : am_code y_Plan_countMembers u_Plan_countMembers ∈ am_ws := am_mem (List.mem_of_getElem? (i := 993) (by decide +kernel)) rfl
def a_Plan_countMembers_0 (rc : Nat → Nat → Int32 → Int32 → Int32 → Int32 → am_M → Option (Int32)) (r0 : Nat) (x1 : Int32) (x2 : Int32) (s0 : Int32) (s1 : Int32) (M : am_M) : Option (Int32) := if (4 : Int32) ≤ x2 then (some x1) else ((q_gtr M r0 3 2).bind (fun t11 => (q_ldr M t11 x2).bind (fun t15 => (q_gti M t15 2 0).bind (fun t16 => if t16 = 0 then (rc 1 r0 0 x2 (0 : Int32) x1 M) else (rc 1 r0 0 x2 (1 : Int32) x1 M)))))
def a_Plan_countMembers_1 (rc : Nat → Nat → Int32 → Int32 → Int32 → Int32 → am_M → Option (Int32)) (r0 : Nat) (x1 : Int32) (x2 : Int32) (s0 : Int32) (s1 : Int32) (M : am_M) : Option (Int32) := rc 0 r0 (s1 + s0) (x2 + (1 : Int32)) 0 0 M
def g_Plan_countMembers : Nat → Nat → Nat → Int32 → Int32 → Int32 → Int32 → am_M → Option (Int32)
  | 0, _, _, _, _, _, _, _ => none
  | F + 1, 0, r0, x1, x2, s0, s1, M => a_Plan_countMembers_0 (g_Plan_countMembers F) r0 x1 x2 s0 s1 M
  | F + 1, 1, r0, x1, x2, s0, s1, M => a_Plan_countMembers_1 (g_Plan_countMembers F) r0 x1 x2 s0 s1 M
  | _ + 1, _ + 2, _, _, _, _, _, _ => none
def e_Plan_countMembers (rc : Nat → Nat → Int32 → Int32 → Int32 → Int32 → am_M → Option (Int32)) (M : am_M) (a0 : Nat) : Option (Int32) := rc 0 a0 (0 : Int32) (0 : Int32) 0 0 M
def f_Plan_countMembers (M : am_M) (a0 : Nat) : Option (Int32) := e_Plan_countMembers (g_Plan_countMembers 1000000000) M a0
theorem fl_Plan_25 : am_fl "CrewOffice$Plan" 25 3 2 := ⟨by decide, by decide, List.mem_of_getElem? (i := 225) (by decide +kernel)⟩
theorem fl_Plan_59 : am_fl "CrewOffice$Plan" 59 2 0 := ⟨by decide, by decide, List.mem_of_getElem? (i := 167) (by decide +kernel)⟩
set_option maxHeartbeats 4000000 in
theorem s_Plan_countMembers_0 {rc : Nat → Nat → Int32 → Int32 → Int32 → Int32 → am_M → Option (Int32)} {res : Int32} (ih_0 : ∀ (r0 : Nat) (x1 : Int32) (x2 : Int32) (s0 : Int32) (s1 : Int32) (M : am_M), rc 0 r0 x1 x2 s0 s1 M = some res → AW u_Plan_countMembers R_Plan_countMembers 0 0 4 [(0, .ref r0), (1, .int x1), (2, .int x2)] [] M (fun r M2 => r = .inl (some (.int res)) ∧ M2 = M)) (ih_1 : ∀ (r0 : Nat) (x1 : Int32) (x2 : Int32) (s0 : Int32) (s1 : Int32) (M : am_M), rc 1 r0 x1 x2 s0 s1 M = some res → AW u_Plan_countMembers R_Plan_countMembers 0 0 27 [(0, .ref r0), (2, .int x2)] [.int s0, .int s1] M (fun r M2 => r = .inl (some (.int res)) ∧ M2 = M)) : ∀ (r0 : Nat) (x1 : Int32) (x2 : Int32) (s0 : Int32) (s1 : Int32) (M : am_M), a_Plan_countMembers_0 rc r0 x1 x2 s0 s1 M = some res → AW u_Plan_countMembers R_Plan_countMembers 0 0 4 [(0, .ref r0), (1, .int x1), (2, .int x2)] [] M (fun r M2 => r = .inl (some (.int res)) ∧ M2 = M) := by
  intro r0 x1 x2 s0 s1 M h
  unfold a_Plan_countMembers_0 at h
  refine aw_iload_n d_Plan_countMembers_4 rfl rfl ?_
  refine aw_iconst (v := 4) d_Plan_countMembers_5 (by decide) ?_
  refine aw_icmp_ge (tgt := 35) d_Plan_countMembers_6 (by decide) (fun hc => ?_) (fun hc => ?_)
  · rw [if_pos hc] at h
    refine aw_iload_n d_Plan_countMembers_35 rfl rfl ?_
    cases h
    exact aw_ireturn d_Plan_countMembers_36 rfl (Nat.le_of_ble_eq_true rfl) (Nat.le_of_ble_eq_true rfl) ⟨rfl, rfl⟩
  · rw [if_neg hc] at h
    refine aw_iload_n d_Plan_countMembers_9 rfl rfl ?_
    refine aw_aload_n d_Plan_countMembers_10 rfl rfl ?_
    obtain ⟨t11, e_t11, h⟩ := q_bind h
    refine aw_gtr d_Plan_countMembers_11 fl_Plan_25 (Or.inr ⟨_, rfl⟩) e_t11 ?_
    refine aw_iload_n d_Plan_countMembers_14 rfl rfl ?_
    obtain ⟨t15, e_t15, h⟩ := q_bind h
    refine aw_ldr d_Plan_countMembers_15 e_t15 ?_
    obtain ⟨t16, e_t16, h⟩ := q_bind h
    refine aw_gti d_Plan_countMembers_16 fl_Plan_59 (Or.inr rfl) e_t16 ?_
    refine aw_if_eq (tgt := 26) d_Plan_countMembers_19 (by decide) (fun hc => ?_) (fun hc => ?_)
    · rw [if_pos hc] at h
      refine aw_iconst (v := 0) d_Plan_countMembers_26 (by decide) ?_
      exact aw_pick [0, 2] rfl (ih_1 _ _ _ _ _ _ h)
    · rw [if_neg hc] at h
      refine aw_iconst (v := 1) d_Plan_countMembers_22 (by decide) ?_
      refine aw_goto (tgt := 27) d_Plan_countMembers_23 (by decide) ?_
      exact aw_pick [0, 2] rfl (ih_1 _ _ _ _ _ _ h)
set_option maxHeartbeats 4000000 in
theorem s_Plan_countMembers_1 {rc : Nat → Nat → Int32 → Int32 → Int32 → Int32 → am_M → Option (Int32)} {res : Int32} (ih_0 : ∀ (r0 : Nat) (x1 : Int32) (x2 : Int32) (s0 : Int32) (s1 : Int32) (M : am_M), rc 0 r0 x1 x2 s0 s1 M = some res → AW u_Plan_countMembers R_Plan_countMembers 0 0 4 [(0, .ref r0), (1, .int x1), (2, .int x2)] [] M (fun r M2 => r = .inl (some (.int res)) ∧ M2 = M)) (ih_1 : ∀ (r0 : Nat) (x1 : Int32) (x2 : Int32) (s0 : Int32) (s1 : Int32) (M : am_M), rc 1 r0 x1 x2 s0 s1 M = some res → AW u_Plan_countMembers R_Plan_countMembers 0 0 27 [(0, .ref r0), (2, .int x2)] [.int s0, .int s1] M (fun r M2 => r = .inl (some (.int res)) ∧ M2 = M)) : ∀ (r0 : Nat) (x1 : Int32) (x2 : Int32) (s0 : Int32) (s1 : Int32) (M : am_M), a_Plan_countMembers_1 rc r0 x1 x2 s0 s1 M = some res → AW u_Plan_countMembers R_Plan_countMembers 0 0 27 [(0, .ref r0), (2, .int x2)] [.int s0, .int s1] M (fun r M2 => r = .inl (some (.int res)) ∧ M2 = M) := by
  intro r0 x1 x2 s0 s1 M h
  unfold a_Plan_countMembers_1 at h
  refine aw_iadd d_Plan_countMembers_27 ?_
  refine aw_istore_n (ls' := [(1, .int _), (0, .ref _), (2, .int _)]) d_Plan_countMembers_28 rfl (Nat.le_of_ble_eq_true rfl) rfl ?_
  refine aw_iinc (v := (x2 + (1 : Int32))) (ls' := [(2, .int _), (1, .int _), (0, .ref _)]) d_Plan_countMembers_29 rfl rfl (Nat.le_of_ble_eq_true rfl) rfl ?_
  refine aw_goto (tgt := 4) d_Plan_countMembers_32 (by decide) ?_
  exact aw_pick [2, 1, 0] rfl (ih_0 _ _ _ _ _ _ h)
theorem l_Plan_countMembers {res : Int32} : ∀ F : Nat, (∀ (r0 : Nat) (x1 : Int32) (x2 : Int32) (s0 : Int32) (s1 : Int32) (M : am_M), g_Plan_countMembers F 0 r0 x1 x2 s0 s1 M = some res → AW u_Plan_countMembers R_Plan_countMembers 0 0 4 [(0, .ref r0), (1, .int x1), (2, .int x2)] [] M (fun r M2 => r = .inl (some (.int res)) ∧ M2 = M)) ∧ (∀ (r0 : Nat) (x1 : Int32) (x2 : Int32) (s0 : Int32) (s1 : Int32) (M : am_M), g_Plan_countMembers F 1 r0 x1 x2 s0 s1 M = some res → AW u_Plan_countMembers R_Plan_countMembers 0 0 27 [(0, .ref r0), (2, .int x2)] [.int s0, .int s1] M (fun r M2 => r = .inl (some (.int res)) ∧ M2 = M)) := by
  intro F
  induction F with
  | zero => exact ⟨fun _ _ _ _ _ _  h => (by cases h), fun _ _ _ _ _ _  h => (by cases h)⟩
  | succ F ih =>
    obtain ⟨ih0, ih1⟩ := ih
    exact ⟨s_Plan_countMembers_0 ih0 ih1, s_Plan_countMembers_1 ih0 ih1⟩
set_option maxHeartbeats 4000000 in
theorem mt_Plan_countMembers {M : am_M} {a0 : Nat} {res : Int32} (h : f_Plan_countMembers M a0 = some res) : AMet y_Plan_countMembers u_Plan_countMembers R_Plan_countMembers [.ref a0] M (fun r M2 => r = .inl (some (.int res)) ∧ M2 = M) := by
  refine am_met (by decide +kernel) w_Plan_countMembers rfl rfl (Nat.le_of_ble_eq_true rfl) ?_
  show AW u_Plan_countMembers R_Plan_countMembers 0 0 0 [(0, .ref a0)] [] M (fun r M2 => r = .inl (some (.int res)) ∧ M2 = M)
  have ih_0 := (l_Plan_countMembers (res := res) 1000000000).1
  have ih_1 := (l_Plan_countMembers (res := res) 1000000000).2
  unfold f_Plan_countMembers at h
  unfold e_Plan_countMembers at h
  generalize g_Plan_countMembers 1000000000 = rc at h ih_0 ih_1
  refine aw_iconst (v := 0) d_Plan_countMembers_0 (by decide) ?_
  refine aw_istore_n (ls' := [(1, .int _), (0, .ref _)]) d_Plan_countMembers_1 rfl (Nat.le_of_ble_eq_true rfl) rfl ?_
  refine aw_iconst (v := 0) d_Plan_countMembers_2 (by decide) ?_
  refine aw_istore_n (ls' := [(2, .int _), (1, .int _), (0, .ref _)]) d_Plan_countMembers_3 rfl (Nat.le_of_ble_eq_true rfl) rfl ?_
  exact aw_pick [2, 1, 0] rfl (ih_0 _ _ _ _ _ _ h)
def y_Plan_isBase : MethodName := ⟨"CrewOffice$Plan", "isBase", "(II)Z"⟩
def u_Plan_isBase : am_U := ("CrewOffice$Plan", "isBase", prog_7_method_4_code, 4, (some .boolean), [])
def R_Plan_isBase : Room := { frames := 0, cells := 0, slots := 0, locals := 0 }
theorem d_Plan_isBase_0 : decode u_Plan_isBase.2.2.1 0 = .ok (.iload_n 1, 1) := by decide +kernel
theorem d_Plan_isBase_1 : decode u_Plan_isBase.2.2.1 1 = .ok (.iconst (-1), 1) := by decide +kernel
theorem d_Plan_isBase_2 : decode u_Plan_isBase.2.2.1 2 = .ok (.if_icmp .eq 22, 3) := by decide +kernel
theorem d_Plan_isBase_5 : decode u_Plan_isBase.2.2.1 5 = .ok (.aload_n 0, 1) := by decide +kernel
theorem d_Plan_isBase_6 : decode u_Plan_isBase.2.2.1 6 = .ok (.getfield 25, 3) := by decide +kernel
theorem d_Plan_isBase_9 : decode u_Plan_isBase.2.2.1 9 = .ok (.iload_n 1, 1) := by decide +kernel
theorem d_Plan_isBase_10 : decode u_Plan_isBase.2.2.1 10 = .ok (.aaload, 1) := by decide +kernel
theorem d_Plan_isBase_11 : decode u_Plan_isBase.2.2.1 11 = .ok (.getfield 60, 3) := by decide +kernel
theorem d_Plan_isBase_14 : decode u_Plan_isBase.2.2.1 14 = .ok (.iload_n 2, 1) := by decide +kernel
theorem d_Plan_isBase_15 : decode u_Plan_isBase.2.2.1 15 = .ok (.if_icmp .ne 7, 3) := by decide +kernel
theorem d_Plan_isBase_18 : decode u_Plan_isBase.2.2.1 18 = .ok (.iconst 1, 1) := by decide +kernel
theorem d_Plan_isBase_19 : decode u_Plan_isBase.2.2.1 19 = .ok (.goto 4, 3) := by decide +kernel
theorem d_Plan_isBase_22 : decode u_Plan_isBase.2.2.1 22 = .ok (.iconst 0, 1) := by decide +kernel
theorem d_Plan_isBase_23 : decode u_Plan_isBase.2.2.1 23 = .ok (.ireturn, 1) := by decide +kernel
theorem d_Plan_isBase_24 : decode u_Plan_isBase.2.2.1 24 = .ok (.iconst 0, 1) := by decide +kernel
theorem d_Plan_isBase_25 : decode u_Plan_isBase.2.2.1 25 = .ok (.istore_n 3, 1) := by decide +kernel
theorem d_Plan_isBase_26 : decode u_Plan_isBase.2.2.1 26 = .ok (.iload_n 3, 1) := by decide +kernel
theorem d_Plan_isBase_27 : decode u_Plan_isBase.2.2.1 27 = .ok (.iconst 4, 1) := by decide +kernel
theorem d_Plan_isBase_28 : decode u_Plan_isBase.2.2.1 28 = .ok (.if_icmp .ge 36, 3) := by decide +kernel
theorem d_Plan_isBase_31 : decode u_Plan_isBase.2.2.1 31 = .ok (.aload_n 0, 1) := by decide +kernel
theorem d_Plan_isBase_32 : decode u_Plan_isBase.2.2.1 32 = .ok (.getfield 25, 3) := by decide +kernel
theorem d_Plan_isBase_35 : decode u_Plan_isBase.2.2.1 35 = .ok (.iload_n 3, 1) := by decide +kernel
theorem d_Plan_isBase_36 : decode u_Plan_isBase.2.2.1 36 = .ok (.aaload, 1) := by decide +kernel
theorem d_Plan_isBase_37 : decode u_Plan_isBase.2.2.1 37 = .ok (.getfield 59, 3) := by decide +kernel
theorem d_Plan_isBase_40 : decode u_Plan_isBase.2.2.1 40 = .ok (.ifCond .eq 18, 3) := by decide +kernel
theorem d_Plan_isBase_43 : decode u_Plan_isBase.2.2.1 43 = .ok (.aload_n 0, 1) := by decide +kernel
theorem d_Plan_isBase_44 : decode u_Plan_isBase.2.2.1 44 = .ok (.getfield 25, 3) := by decide +kernel
theorem d_Plan_isBase_47 : decode u_Plan_isBase.2.2.1 47 = .ok (.iload_n 3, 1) := by decide +kernel
theorem d_Plan_isBase_48 : decode u_Plan_isBase.2.2.1 48 = .ok (.aaload, 1) := by decide +kernel
theorem d_Plan_isBase_49 : decode u_Plan_isBase.2.2.1 49 = .ok (.getfield 60, 3) := by decide +kernel
theorem d_Plan_isBase_52 : decode u_Plan_isBase.2.2.1 52 = .ok (.iload_n 2, 1) := by decide +kernel
theorem d_Plan_isBase_53 : decode u_Plan_isBase.2.2.1 53 = .ok (.if_icmp .ne 5, 3) := by decide +kernel
theorem d_Plan_isBase_56 : decode u_Plan_isBase.2.2.1 56 = .ok (.iconst 1, 1) := by decide +kernel
theorem d_Plan_isBase_57 : decode u_Plan_isBase.2.2.1 57 = .ok (.ireturn, 1) := by decide +kernel
theorem d_Plan_isBase_58 : decode u_Plan_isBase.2.2.1 58 = .ok (.iinc 3 1, 3) := by decide +kernel
theorem d_Plan_isBase_61 : decode u_Plan_isBase.2.2.1 61 = .ok (.goto (-35), 3) := by decide +kernel
theorem d_Plan_isBase_64 : decode u_Plan_isBase.2.2.1 64 = .ok (.iconst 0, 1) := by decide +kernel
theorem d_Plan_isBase_65 : decode u_Plan_isBase.2.2.1 65 = .ok (.ireturn, 1) := by decide +kernel
theorem w_Plan_isBase : am_code y_Plan_isBase u_Plan_isBase ∈ am_ws := am_mem (List.mem_of_getElem? (i := 485) (by decide +kernel)) rfl
def a_Plan_isBase_0 (rc : Nat → Nat → Int32 → Int32 → am_M → Option (Int32)) (r0 : Nat) (x2 : Int32) (x3 : Int32) (M : am_M) : Option (Int32) := if (4 : Int32) ≤ x3 then (some (0 : Int32)) else ((q_gtr M r0 3 2).bind (fun t32 => (q_ldr M t32 x3).bind (fun t36 => (q_gti M t36 2 0).bind (fun t37 => if t37 = 0 then (rc 1 r0 x2 x3 M) else ((q_gtr M r0 3 2).bind (fun t44 => (q_ldr M t44 x3).bind (fun t48 => (q_gti M t48 2 1).bind (fun t49 => if t49 = x2 then (some (1 : Int32)) else (rc 1 r0 x2 x3 M)))))))))
def a_Plan_isBase_1 (rc : Nat → Nat → Int32 → Int32 → am_M → Option (Int32)) (r0 : Nat) (x2 : Int32) (x3 : Int32) (M : am_M) : Option (Int32) := rc 0 r0 x2 (x3 + (1 : Int32)) M
def g_Plan_isBase : Nat → Nat → Nat → Int32 → Int32 → am_M → Option (Int32)
  | 0, _, _, _, _, _ => none
  | F + 1, 0, r0, x2, x3, M => a_Plan_isBase_0 (g_Plan_isBase F) r0 x2 x3 M
  | F + 1, 1, r0, x2, x3, M => a_Plan_isBase_1 (g_Plan_isBase F) r0 x2 x3 M
  | _ + 1, _ + 2, _, _, _, _ => none
def e_Plan_isBase (rc : Nat → Nat → Int32 → Int32 → am_M → Option (Int32)) (M : am_M) (a0 : Nat) (a1 : Int32) (a2 : Int32) : Option (Int32) := if a1 = (-1 : Int32) then (rc 0 a0 a2 (0 : Int32) M) else ((q_gtr M a0 3 2).bind (fun t6 => (q_ldr M t6 a1).bind (fun t10 => (q_gti M t10 2 1).bind (fun t11 => if t11 = a2 then (some (1 : Int32)) else (some (0 : Int32))))))
def f_Plan_isBase (M : am_M) (a0 : Nat) (a1 : Int32) (a2 : Int32) : Option (Int32) := e_Plan_isBase (g_Plan_isBase 1000000000) M a0 a1 a2
theorem fl_Plan_60 : am_fl "CrewOffice$Plan" 60 2 1 := ⟨by decide, by decide, List.mem_of_getElem? (i := 171) (by decide +kernel)⟩
set_option maxHeartbeats 4000000 in
theorem s_Plan_isBase_0 {rc : Nat → Nat → Int32 → Int32 → am_M → Option (Int32)} {res : Int32} (ih_0 : ∀ (r0 : Nat) (x2 : Int32) (x3 : Int32) (M : am_M), rc 0 r0 x2 x3 M = some res → AW u_Plan_isBase R_Plan_isBase 0 0 26 [(0, .ref r0), (2, .int x2), (3, .int x3)] [] M (fun r M2 => r = .inl (some (.int res)) ∧ M2 = M)) (ih_1 : ∀ (r0 : Nat) (x2 : Int32) (x3 : Int32) (M : am_M), rc 1 r0 x2 x3 M = some res → AW u_Plan_isBase R_Plan_isBase 0 0 58 [(0, .ref r0), (2, .int x2), (3, .int x3)] [] M (fun r M2 => r = .inl (some (.int res)) ∧ M2 = M)) : ∀ (r0 : Nat) (x2 : Int32) (x3 : Int32) (M : am_M), a_Plan_isBase_0 rc r0 x2 x3 M = some res → AW u_Plan_isBase R_Plan_isBase 0 0 26 [(0, .ref r0), (2, .int x2), (3, .int x3)] [] M (fun r M2 => r = .inl (some (.int res)) ∧ M2 = M) := by
  intro r0 x2 x3 M h
  unfold a_Plan_isBase_0 at h
  refine aw_iload_n d_Plan_isBase_26 rfl rfl ?_
  refine aw_iconst (v := 4) d_Plan_isBase_27 (by decide) ?_
  refine aw_icmp_ge (tgt := 64) d_Plan_isBase_28 (by decide) (fun hc => ?_) (fun hc => ?_)
  · rw [if_pos hc] at h
    refine aw_iconst (v := 0) d_Plan_isBase_64 (by decide) ?_
    cases h
    exact aw_zreturn d_Plan_isBase_65 rfl (by decide) (Nat.le_of_ble_eq_true rfl) (Nat.le_of_ble_eq_true rfl) ⟨rfl, rfl⟩
  · rw [if_neg hc] at h
    refine aw_aload_n d_Plan_isBase_31 rfl rfl ?_
    obtain ⟨t32, e_t32, h⟩ := q_bind h
    refine aw_gtr d_Plan_isBase_32 fl_Plan_25 (Or.inr ⟨_, rfl⟩) e_t32 ?_
    refine aw_iload_n d_Plan_isBase_35 rfl rfl ?_
    obtain ⟨t36, e_t36, h⟩ := q_bind h
    refine aw_ldr d_Plan_isBase_36 e_t36 ?_
    obtain ⟨t37, e_t37, h⟩ := q_bind h
    refine aw_gti d_Plan_isBase_37 fl_Plan_59 (Or.inr rfl) e_t37 ?_
    refine aw_if_eq (tgt := 58) d_Plan_isBase_40 (by decide) (fun hc => ?_) (fun hc => ?_)
    · rw [if_pos hc] at h
      exact aw_pick [0, 1, 2] rfl (ih_1 _ _ _ _ h)
    · rw [if_neg hc] at h
      refine aw_aload_n d_Plan_isBase_43 rfl rfl ?_
      obtain ⟨t44, e_t44, h⟩ := q_bind h
      refine aw_gtr d_Plan_isBase_44 fl_Plan_25 (Or.inr ⟨_, rfl⟩) e_t44 ?_
      refine aw_iload_n d_Plan_isBase_47 rfl rfl ?_
      obtain ⟨t48, e_t48, h⟩ := q_bind h
      refine aw_ldr d_Plan_isBase_48 e_t48 ?_
      obtain ⟨t49, e_t49, h⟩ := q_bind h
      refine aw_gti d_Plan_isBase_49 fl_Plan_60 (Or.inl rfl) e_t49 ?_
      refine aw_iload_n d_Plan_isBase_52 rfl rfl ?_
      refine aw_icmp_ne (tgt := 58) d_Plan_isBase_53 (by decide) (fun hc => ?_) (fun hc => ?_)
      · rw [if_neg hc] at h
        exact aw_pick [0, 1, 2] rfl (ih_1 _ _ _ _ h)
      · rw [if_pos hc] at h
        refine aw_iconst (v := 1) d_Plan_isBase_56 (by decide) ?_
        cases h
        exact aw_zreturn d_Plan_isBase_57 rfl (by decide) (Nat.le_of_ble_eq_true rfl) (Nat.le_of_ble_eq_true rfl) ⟨rfl, rfl⟩
set_option maxHeartbeats 4000000 in
theorem s_Plan_isBase_1 {rc : Nat → Nat → Int32 → Int32 → am_M → Option (Int32)} {res : Int32} (ih_0 : ∀ (r0 : Nat) (x2 : Int32) (x3 : Int32) (M : am_M), rc 0 r0 x2 x3 M = some res → AW u_Plan_isBase R_Plan_isBase 0 0 26 [(0, .ref r0), (2, .int x2), (3, .int x3)] [] M (fun r M2 => r = .inl (some (.int res)) ∧ M2 = M)) (ih_1 : ∀ (r0 : Nat) (x2 : Int32) (x3 : Int32) (M : am_M), rc 1 r0 x2 x3 M = some res → AW u_Plan_isBase R_Plan_isBase 0 0 58 [(0, .ref r0), (2, .int x2), (3, .int x3)] [] M (fun r M2 => r = .inl (some (.int res)) ∧ M2 = M)) : ∀ (r0 : Nat) (x2 : Int32) (x3 : Int32) (M : am_M), a_Plan_isBase_1 rc r0 x2 x3 M = some res → AW u_Plan_isBase R_Plan_isBase 0 0 58 [(0, .ref r0), (2, .int x2), (3, .int x3)] [] M (fun r M2 => r = .inl (some (.int res)) ∧ M2 = M) := by
  intro r0 x2 x3 M h
  unfold a_Plan_isBase_1 at h
  refine aw_iinc (v := (x3 + (1 : Int32))) (ls' := [(3, .int _), (0, .ref _), (2, .int _)]) d_Plan_isBase_58 rfl rfl (Nat.le_of_ble_eq_true rfl) rfl ?_
  refine aw_goto (tgt := 26) d_Plan_isBase_61 (by decide) ?_
  exact aw_pick [1, 2, 0] rfl (ih_0 _ _ _ _ h)
theorem l_Plan_isBase {res : Int32} : ∀ F : Nat, (∀ (r0 : Nat) (x2 : Int32) (x3 : Int32) (M : am_M), g_Plan_isBase F 0 r0 x2 x3 M = some res → AW u_Plan_isBase R_Plan_isBase 0 0 26 [(0, .ref r0), (2, .int x2), (3, .int x3)] [] M (fun r M2 => r = .inl (some (.int res)) ∧ M2 = M)) ∧ (∀ (r0 : Nat) (x2 : Int32) (x3 : Int32) (M : am_M), g_Plan_isBase F 1 r0 x2 x3 M = some res → AW u_Plan_isBase R_Plan_isBase 0 0 58 [(0, .ref r0), (2, .int x2), (3, .int x3)] [] M (fun r M2 => r = .inl (some (.int res)) ∧ M2 = M)) := by
  intro F
  induction F with
  | zero => exact ⟨fun _ _ _ _  h => (by cases h), fun _ _ _ _  h => (by cases h)⟩
  | succ F ih =>
    obtain ⟨ih0, ih1⟩ := ih
    exact ⟨s_Plan_isBase_0 ih0 ih1, s_Plan_isBase_1 ih0 ih1⟩
set_option maxHeartbeats 4000000 in
theorem mt_Plan_isBase {M : am_M} {a0 : Nat} {a1 : Int32} {a2 : Int32} {res : Int32} (h : f_Plan_isBase M a0 a1 a2 = some res) : AMet y_Plan_isBase u_Plan_isBase R_Plan_isBase [.ref a0, .int a1, .int a2] M (fun r M2 => r = .inl (some (.int res)) ∧ M2 = M) := by
  refine am_met (by decide +kernel) w_Plan_isBase rfl rfl (Nat.le_of_ble_eq_true rfl) ?_
  show AW u_Plan_isBase R_Plan_isBase 0 0 0 [(0, .ref a0), (1, .int a1), (2, .int a2)] [] M (fun r M2 => r = .inl (some (.int res)) ∧ M2 = M)
  have ih_0 := (l_Plan_isBase (res := res) 1000000000).1
  have ih_1 := (l_Plan_isBase (res := res) 1000000000).2
  unfold f_Plan_isBase at h
  unfold e_Plan_isBase at h
  generalize g_Plan_isBase 1000000000 = rc at h ih_0 ih_1
  refine aw_iload_n d_Plan_isBase_0 rfl rfl ?_
  refine aw_iconst (v := -1) d_Plan_isBase_1 (by decide) ?_
  refine aw_icmp_eq (tgt := 24) d_Plan_isBase_2 (by decide) (fun hc => ?_) (fun hc => ?_)
  · rw [if_pos hc] at h
    refine aw_iconst (v := 0) d_Plan_isBase_24 (by decide) ?_
    refine aw_istore_n (ls' := [(3, .int _), (0, .ref _), (1, .int _), (2, .int _)]) d_Plan_isBase_25 rfl (Nat.le_of_ble_eq_true rfl) rfl ?_
    exact aw_pick [1, 3, 0] rfl (ih_0 _ _ _ _ h)
  · rw [if_neg hc] at h
    refine aw_aload_n d_Plan_isBase_5 rfl rfl ?_
    obtain ⟨t6, e_t6, h⟩ := q_bind h
    refine aw_gtr d_Plan_isBase_6 fl_Plan_25 (Or.inr ⟨_, rfl⟩) e_t6 ?_
    refine aw_iload_n d_Plan_isBase_9 rfl rfl ?_
    obtain ⟨t10, e_t10, h⟩ := q_bind h
    refine aw_ldr d_Plan_isBase_10 e_t10 ?_
    obtain ⟨t11, e_t11, h⟩ := q_bind h
    refine aw_gti d_Plan_isBase_11 fl_Plan_60 (Or.inl rfl) e_t11 ?_
    refine aw_iload_n d_Plan_isBase_14 rfl rfl ?_
    refine aw_icmp_ne (tgt := 22) d_Plan_isBase_15 (by decide) (fun hc => ?_) (fun hc => ?_)
    · rw [if_neg hc] at h
      refine aw_iconst (v := 0) d_Plan_isBase_22 (by decide) ?_
      cases h
      exact aw_zreturn d_Plan_isBase_23 rfl (by decide) (Nat.le_of_ble_eq_true rfl) (Nat.le_of_ble_eq_true rfl) ⟨rfl, rfl⟩
    · rw [if_pos hc] at h
      refine aw_iconst (v := 1) d_Plan_isBase_18 (by decide) ?_
      refine aw_goto (tgt := 23) d_Plan_isBase_19 (by decide) ?_
      cases h
      exact aw_zreturn d_Plan_isBase_23 rfl (by decide) (Nat.le_of_ble_eq_true rfl) (Nat.le_of_ble_eq_true rfl) ⟨rfl, rfl⟩
def y_Plan_canFollow : MethodName := ⟨"CrewOffice$Plan", "canFollow", "(II)Z"⟩
def u_Plan_canFollow : am_U := ("CrewOffice$Plan", "canFollow", prog_7_method_5_code, 3, (some .boolean), [])
def R_Plan_canFollow : Room := { frames := 0, cells := 0, slots := 0, locals := 0 }
theorem d_Plan_canFollow_0 : decode u_Plan_canFollow.2.2.1 0 = .ok (.aload_n 0, 1) := by decide +kernel
theorem d_Plan_canFollow_1 : decode u_Plan_canFollow.2.2.1 1 = .ok (.getfield 19, 3) := by decide +kernel
theorem d_Plan_canFollow_4 : decode u_Plan_canFollow.2.2.1 4 = .ok (.iload_n 2, 1) := by decide +kernel
theorem d_Plan_canFollow_5 : decode u_Plan_canFollow.2.2.1 5 = .ok (.aaload, 1) := by decide +kernel
theorem d_Plan_canFollow_6 : decode u_Plan_canFollow.2.2.1 6 = .ok (.getfield 64, 3) := by decide +kernel
theorem d_Plan_canFollow_9 : decode u_Plan_canFollow.2.2.1 9 = .ok (.aload_n 0, 1) := by decide +kernel
theorem d_Plan_canFollow_10 : decode u_Plan_canFollow.2.2.1 10 = .ok (.getfield 19, 3) := by decide +kernel
theorem d_Plan_canFollow_13 : decode u_Plan_canFollow.2.2.1 13 = .ok (.iload_n 1, 1) := by decide +kernel
theorem d_Plan_canFollow_14 : decode u_Plan_canFollow.2.2.1 14 = .ok (.aaload, 1) := by decide +kernel
theorem d_Plan_canFollow_15 : decode u_Plan_canFollow.2.2.1 15 = .ok (.getfield 67, 3) := by decide +kernel
theorem d_Plan_canFollow_18 : decode u_Plan_canFollow.2.2.1 18 = .ok (.if_icmp .ne 35, 3) := by decide +kernel
theorem d_Plan_canFollow_21 : decode u_Plan_canFollow.2.2.1 21 = .ok (.aload_n 0, 1) := by decide +kernel
theorem d_Plan_canFollow_22 : decode u_Plan_canFollow.2.2.1 22 = .ok (.getfield 19, 3) := by decide +kernel
theorem d_Plan_canFollow_25 : decode u_Plan_canFollow.2.2.1 25 = .ok (.iload_n 2, 1) := by decide +kernel
theorem d_Plan_canFollow_26 : decode u_Plan_canFollow.2.2.1 26 = .ok (.aaload, 1) := by decide +kernel
theorem d_Plan_canFollow_27 : decode u_Plan_canFollow.2.2.1 27 = .ok (.getfield 70, 3) := by decide +kernel
theorem d_Plan_canFollow_30 : decode u_Plan_canFollow.2.2.1 30 = .ok (.aload_n 0, 1) := by decide +kernel
theorem d_Plan_canFollow_31 : decode u_Plan_canFollow.2.2.1 31 = .ok (.getfield 19, 3) := by decide +kernel
theorem d_Plan_canFollow_34 : decode u_Plan_canFollow.2.2.1 34 = .ok (.iload_n 1, 1) := by decide +kernel
theorem d_Plan_canFollow_35 : decode u_Plan_canFollow.2.2.1 35 = .ok (.aaload, 1) := by decide +kernel
theorem d_Plan_canFollow_36 : decode u_Plan_canFollow.2.2.1 36 = .ok (.getfield 73, 3) := by decide +kernel
theorem d_Plan_canFollow_39 : decode u_Plan_canFollow.2.2.1 39 = .ok (.aload_n 0, 1) := by decide +kernel
theorem d_Plan_canFollow_40 : decode u_Plan_canFollow.2.2.1 40 = .ok (.getfield 38, 3) := by decide +kernel
theorem d_Plan_canFollow_43 : decode u_Plan_canFollow.2.2.1 43 = .ok (.iconst 2, 1) := by decide +kernel
theorem d_Plan_canFollow_44 : decode u_Plan_canFollow.2.2.1 44 = .ok (.iaload, 1) := by decide +kernel
theorem d_Plan_canFollow_45 : decode u_Plan_canFollow.2.2.1 45 = .ok (.iadd, 1) := by decide +kernel
theorem d_Plan_canFollow_46 : decode u_Plan_canFollow.2.2.1 46 = .ok (.if_icmp .lt 7, 3) := by decide +kernel
theorem d_Plan_canFollow_49 : decode u_Plan_canFollow.2.2.1 49 = .ok (.iconst 1, 1) := by decide +kernel
theorem d_Plan_canFollow_50 : decode u_Plan_canFollow.2.2.1 50 = .ok (.goto 4, 3) := by decide +kernel
theorem d_Plan_canFollow_53 : decode u_Plan_canFollow.2.2.1 53 = .ok (.iconst 0, 1) := by decide +kernel
theorem d_Plan_canFollow_54 : decode u_Plan_canFollow.2.2.1 54 = .ok (.ireturn, 1) := by decide +kernel
theorem w_Plan_canFollow : am_code y_Plan_canFollow u_Plan_canFollow ∈ am_ws := am_mem (List.mem_of_getElem? (i := 489) (by decide +kernel)) rfl
def e_Plan_canFollow (M : am_M) (a0 : Nat) (a1 : Int32) (a2 : Int32) : Option (Int32) := (q_gtr M a0 3 1).bind (fun t1 => (q_ldr M t1 a2).bind (fun t5 => (q_gti M t5 1 1).bind (fun t6 => (q_gtr M a0 3 1).bind (fun t10 => (q_ldr M t10 a1).bind (fun t14 => (q_gti M t14 1 2).bind (fun t15 => if t6 = t15 then ((q_gtr M a0 3 1).bind (fun t22 => (q_ldr M t22 a2).bind (fun t26 => (q_gti M t26 1 3).bind (fun t27 => (q_gtr M a0 3 1).bind (fun t31 => (q_ldr M t31 a1).bind (fun t35 => (q_gti M t35 1 4).bind (fun t36 => (q_gtr M a0 3 3).bind (fun t40 => (q_ldi M t40 (2 : Int32)).bind (fun t44 => if t27 < (t36 + t44) then (some (0 : Int32)) else (some (1 : Int32))))))))))) else (some (0 : Int32))))))))
def f_Plan_canFollow (M : am_M) (a0 : Nat) (a1 : Int32) (a2 : Int32) : Option (Int32) := e_Plan_canFollow M a0 a1 a2
theorem fl_Plan_38 : am_fl "CrewOffice$Plan" 38 3 3 := ⟨by decide, by decide, List.mem_of_getElem? (i := 229) (by decide +kernel)⟩
theorem fl_Plan_64 : am_fl "CrewOffice$Plan" 64 1 1 := ⟨by decide, by decide, List.mem_of_getElem? (i := 133) (by decide +kernel)⟩
theorem fl_Plan_67 : am_fl "CrewOffice$Plan" 67 1 2 := ⟨by decide, by decide, List.mem_of_getElem? (i := 137) (by decide +kernel)⟩
theorem fl_Plan_70 : am_fl "CrewOffice$Plan" 70 1 3 := ⟨by decide, by decide, List.mem_of_getElem? (i := 141) (by decide +kernel)⟩
theorem fl_Plan_73 : am_fl "CrewOffice$Plan" 73 1 4 := ⟨by decide, by decide, List.mem_of_getElem? (i := 144) (by decide +kernel)⟩
set_option maxHeartbeats 4000000 in
theorem mt_Plan_canFollow {M : am_M} {a0 : Nat} {a1 : Int32} {a2 : Int32} {res : Int32} (h : f_Plan_canFollow M a0 a1 a2 = some res) : AMet y_Plan_canFollow u_Plan_canFollow R_Plan_canFollow [.ref a0, .int a1, .int a2] M (fun r M2 => r = .inl (some (.int res)) ∧ M2 = M) := by
  refine am_met (by decide +kernel) w_Plan_canFollow rfl rfl (Nat.le_of_ble_eq_true rfl) ?_
  show AW u_Plan_canFollow R_Plan_canFollow 0 0 0 [(0, .ref a0), (1, .int a1), (2, .int a2)] [] M (fun r M2 => r = .inl (some (.int res)) ∧ M2 = M)
  unfold f_Plan_canFollow at h
  unfold e_Plan_canFollow at h
  refine aw_aload_n d_Plan_canFollow_0 rfl rfl ?_
  obtain ⟨t1, e_t1, h⟩ := q_bind h
  refine aw_gtr d_Plan_canFollow_1 fl_Plan_19 (Or.inr ⟨_, rfl⟩) e_t1 ?_
  refine aw_iload_n d_Plan_canFollow_4 rfl rfl ?_
  obtain ⟨t5, e_t5, h⟩ := q_bind h
  refine aw_ldr d_Plan_canFollow_5 e_t5 ?_
  obtain ⟨t6, e_t6, h⟩ := q_bind h
  refine aw_gti d_Plan_canFollow_6 fl_Plan_64 (Or.inl rfl) e_t6 ?_
  refine aw_aload_n d_Plan_canFollow_9 rfl rfl ?_
  obtain ⟨t10, e_t10, h⟩ := q_bind h
  refine aw_gtr d_Plan_canFollow_10 fl_Plan_19 (Or.inr ⟨_, rfl⟩) e_t10 ?_
  refine aw_iload_n d_Plan_canFollow_13 rfl rfl ?_
  obtain ⟨t14, e_t14, h⟩ := q_bind h
  refine aw_ldr d_Plan_canFollow_14 e_t14 ?_
  obtain ⟨t15, e_t15, h⟩ := q_bind h
  refine aw_gti d_Plan_canFollow_15 fl_Plan_67 (Or.inl rfl) e_t15 ?_
  refine aw_icmp_ne (tgt := 53) d_Plan_canFollow_18 (by decide) (fun hc => ?_) (fun hc => ?_)
  · rw [if_neg hc] at h
    refine aw_iconst (v := 0) d_Plan_canFollow_53 (by decide) ?_
    cases h
    exact aw_zreturn d_Plan_canFollow_54 rfl (by decide) (Nat.le_of_ble_eq_true rfl) (Nat.le_of_ble_eq_true rfl) ⟨rfl, rfl⟩
  · rw [if_pos hc] at h
    refine aw_aload_n d_Plan_canFollow_21 rfl rfl ?_
    obtain ⟨t22, e_t22, h⟩ := q_bind h
    refine aw_gtr d_Plan_canFollow_22 fl_Plan_19 (Or.inr ⟨_, rfl⟩) e_t22 ?_
    refine aw_iload_n d_Plan_canFollow_25 rfl rfl ?_
    obtain ⟨t26, e_t26, h⟩ := q_bind h
    refine aw_ldr d_Plan_canFollow_26 e_t26 ?_
    obtain ⟨t27, e_t27, h⟩ := q_bind h
    refine aw_gti d_Plan_canFollow_27 fl_Plan_70 (Or.inl rfl) e_t27 ?_
    refine aw_aload_n d_Plan_canFollow_30 rfl rfl ?_
    obtain ⟨t31, e_t31, h⟩ := q_bind h
    refine aw_gtr d_Plan_canFollow_31 fl_Plan_19 (Or.inr ⟨_, rfl⟩) e_t31 ?_
    refine aw_iload_n d_Plan_canFollow_34 rfl rfl ?_
    obtain ⟨t35, e_t35, h⟩ := q_bind h
    refine aw_ldr d_Plan_canFollow_35 e_t35 ?_
    obtain ⟨t36, e_t36, h⟩ := q_bind h
    refine aw_gti d_Plan_canFollow_36 fl_Plan_73 (Or.inl rfl) e_t36 ?_
    refine aw_aload_n d_Plan_canFollow_39 rfl rfl ?_
    obtain ⟨t40, e_t40, h⟩ := q_bind h
    refine aw_gtr d_Plan_canFollow_40 fl_Plan_38 (Or.inr ⟨_, rfl⟩) e_t40 ?_
    refine aw_iconst (v := 2) d_Plan_canFollow_43 (by decide) ?_
    obtain ⟨t44, e_t44, h⟩ := q_bind h
    refine aw_ldi d_Plan_canFollow_44 e_t44 ?_
    refine aw_iadd d_Plan_canFollow_45 ?_
    refine aw_icmp_lt (tgt := 53) d_Plan_canFollow_46 (by decide) (fun hc => ?_) (fun hc => ?_)
    · rw [if_pos hc] at h
      refine aw_iconst (v := 0) d_Plan_canFollow_53 (by decide) ?_
      cases h
      exact aw_zreturn d_Plan_canFollow_54 rfl (by decide) (Nat.le_of_ble_eq_true rfl) (Nat.le_of_ble_eq_true rfl) ⟨rfl, rfl⟩
    · rw [if_neg hc] at h
      refine aw_iconst (v := 1) d_Plan_canFollow_49 (by decide) ?_
      refine aw_goto (tgt := 54) d_Plan_canFollow_50 (by decide) ?_
      cases h
      exact aw_zreturn d_Plan_canFollow_54 rfl (by decide) (Nat.le_of_ble_eq_true rfl) (Nat.le_of_ble_eq_true rfl) ⟨rfl, rfl⟩
def y_Sharing_bitOf : MethodName := ⟨"CrewOffice$Sharing", "bitOf", "(I)I"⟩
def u_Sharing_bitOf : am_U := ("CrewOffice$Sharing", "bitOf", prog_8_method_3_code, 1, (some .int), [])
def R_Sharing_bitOf : Room := { frames := 0, cells := 0, slots := 0, locals := 0 }
theorem d_Sharing_bitOf_0 : decode u_Sharing_bitOf.2.2.1 0 = .ok (.iconst 1, 1) := by decide +kernel
theorem d_Sharing_bitOf_1 : decode u_Sharing_bitOf.2.2.1 1 = .ok (.bipush 11, 2) := by decide +kernel
theorem d_Sharing_bitOf_3 : decode u_Sharing_bitOf.2.2.1 3 = .ok (.iload_n 0, 1) := by decide +kernel
theorem d_Sharing_bitOf_4 : decode u_Sharing_bitOf.2.2.1 4 = .ok (.isub, 1) := by decide +kernel
theorem d_Sharing_bitOf_5 : decode u_Sharing_bitOf.2.2.1 5 = .ok (.ishl, 1) := by decide +kernel
theorem d_Sharing_bitOf_6 : decode u_Sharing_bitOf.2.2.1 6 = .ok (.ireturn, 1) := by decide +kernel
theorem w_Sharing_bitOf : am_code y_Sharing_bitOf u_Sharing_bitOf ∈ am_ws := am_mem (List.mem_of_getElem? (i := 913) (by decide +kernel)) rfl
def e_Sharing_bitOf (M : am_M) (a0 : Int32) : Option (Int32) := some ((1 : Int32) <<< (((11 : Int32) - a0) &&& 31))
def f_Sharing_bitOf (M : am_M) (a0 : Int32) : Option (Int32) := e_Sharing_bitOf M a0
set_option maxHeartbeats 4000000 in
theorem mt_Sharing_bitOf {M : am_M} {a0 : Int32} {res : Int32} (h : f_Sharing_bitOf M a0 = some res) : AMet y_Sharing_bitOf u_Sharing_bitOf R_Sharing_bitOf [.int a0] M (fun r M2 => r = .inl (some (.int res)) ∧ M2 = M) := by
  refine am_met (by decide +kernel) w_Sharing_bitOf rfl rfl (Nat.le_of_ble_eq_true rfl) ?_
  show AW u_Sharing_bitOf R_Sharing_bitOf 0 0 0 [(0, .int a0)] [] M (fun r M2 => r = .inl (some (.int res)) ∧ M2 = M)
  unfold f_Sharing_bitOf at h
  unfold e_Sharing_bitOf at h
  refine aw_iconst (v := 1) d_Sharing_bitOf_0 (by decide) ?_
  refine aw_bipush (v := 11) d_Sharing_bitOf_1 (by decide) ?_
  refine aw_iload_n d_Sharing_bitOf_3 rfl rfl ?_
  refine aw_isub d_Sharing_bitOf_4 ?_
  refine aw_ishl d_Sharing_bitOf_5 ?_
  cases h
  exact aw_ireturn d_Sharing_bitOf_6 rfl (Nat.le_of_ble_eq_true rfl) (Nat.le_of_ble_eq_true rfl) ⟨rfl, rfl⟩
def y_Sharing_workAt : MethodName := ⟨"CrewOffice$Sharing", "workAt", "(I)LCrewOffice$Work;"⟩
def u_Sharing_workAt : am_U := ("CrewOffice$Sharing", "workAt", prog_8_method_4_code, 2, (some (.object "CrewOffice$Work")), [])
def R_Sharing_workAt : Room := { frames := 0, cells := 0, slots := 0, locals := 0 }
theorem d_Sharing_workAt_0 : decode u_Sharing_workAt.2.2.1 0 = .ok (.aload_n 0, 1) := by decide +kernel
theorem d_Sharing_workAt_1 : decode u_Sharing_workAt.2.2.1 1 = .ok (.getfield 31, 3) := by decide +kernel
theorem d_Sharing_workAt_4 : decode u_Sharing_workAt.2.2.1 4 = .ok (.getfield 45, 3) := by decide +kernel
theorem d_Sharing_workAt_7 : decode u_Sharing_workAt.2.2.1 7 = .ok (.aload_n 0, 1) := by decide +kernel
theorem d_Sharing_workAt_8 : decode u_Sharing_workAt.2.2.1 8 = .ok (.getfield 35, 3) := by decide +kernel
theorem d_Sharing_workAt_11 : decode u_Sharing_workAt.2.2.1 11 = .ok (.getfield 51, 3) := by decide +kernel
theorem d_Sharing_workAt_14 : decode u_Sharing_workAt.2.2.1 14 = .ok (.iload_n 1, 1) := by decide +kernel
theorem d_Sharing_workAt_15 : decode u_Sharing_workAt.2.2.1 15 = .ok (.iaload, 1) := by decide +kernel
theorem d_Sharing_workAt_16 : decode u_Sharing_workAt.2.2.1 16 = .ok (.aaload, 1) := by decide +kernel
theorem d_Sharing_workAt_17 : decode u_Sharing_workAt.2.2.1 17 = .ok (.areturn, 1) := by decide +kernel
theorem w_Sharing_workAt : am_code y_Sharing_workAt u_Sharing_workAt ∈ am_ws := am_mem (List.mem_of_getElem? (i := 909) (by decide +kernel)) rfl
def e_Sharing_workAt (M : am_M) (a0 : Nat) (a1 : Int32) : Option (Nat) := (q_gtr M a0 8 1).bind (fun t1 => (q_gtr M t1 6 2).bind (fun t4 => (q_gtr M a0 8 2).bind (fun t8 => (q_gtr M t8 7 2).bind (fun t11 => (q_ldi M t11 a1).bind (fun t15 => (q_ldr M t4 t15).bind (fun t16 => some t16))))))
def f_Sharing_workAt (M : am_M) (a0 : Nat) (a1 : Int32) : Option (Nat) := e_Sharing_workAt M a0 a1
theorem fl_Sharing_31 : am_fl "CrewOffice$Sharing" 31 8 1 := ⟨by decide, by decide, List.mem_of_getElem? (i := 401) (by decide +kernel)⟩
theorem fl_Sharing_35 : am_fl "CrewOffice$Sharing" 35 8 2 := ⟨by decide, by decide, List.mem_of_getElem? (i := 402) (by decide +kernel)⟩
theorem fl_Sharing_45 : am_fl "CrewOffice$Sharing" 45 6 2 := ⟨by decide, by decide, List.mem_of_getElem? (i := 347) (by decide +kernel)⟩
theorem fl_Sharing_51 : am_fl "CrewOffice$Sharing" 51 7 2 := ⟨by decide, by decide, List.mem_of_getElem? (i := 374) (by decide +kernel)⟩
set_option maxHeartbeats 4000000 in
theorem mt_Sharing_workAt {M : am_M} {a0 : Nat} {a1 : Int32} {res : Nat} (h : f_Sharing_workAt M a0 a1 = some res) : AMet y_Sharing_workAt u_Sharing_workAt R_Sharing_workAt [.ref a0, .int a1] M (fun r M2 => r = .inl (some (.ref res)) ∧ M2 = M) := by
  refine am_met (by decide +kernel) w_Sharing_workAt rfl rfl (Nat.le_of_ble_eq_true rfl) ?_
  show AW u_Sharing_workAt R_Sharing_workAt 0 0 0 [(0, .ref a0), (1, .int a1)] [] M (fun r M2 => r = .inl (some (.ref res)) ∧ M2 = M)
  unfold f_Sharing_workAt at h
  unfold e_Sharing_workAt at h
  refine aw_aload_n d_Sharing_workAt_0 rfl rfl ?_
  obtain ⟨t1, e_t1, h⟩ := q_bind h
  refine aw_gtr d_Sharing_workAt_1 fl_Sharing_31 (Or.inl ⟨_, rfl⟩) e_t1 ?_
  obtain ⟨t4, e_t4, h⟩ := q_bind h
  refine aw_gtr d_Sharing_workAt_4 fl_Sharing_45 (Or.inr ⟨_, rfl⟩) e_t4 ?_
  refine aw_aload_n d_Sharing_workAt_7 rfl rfl ?_
  obtain ⟨t8, e_t8, h⟩ := q_bind h
  refine aw_gtr d_Sharing_workAt_8 fl_Sharing_35 (Or.inl ⟨_, rfl⟩) e_t8 ?_
  obtain ⟨t11, e_t11, h⟩ := q_bind h
  refine aw_gtr d_Sharing_workAt_11 fl_Sharing_51 (Or.inr ⟨_, rfl⟩) e_t11 ?_
  refine aw_iload_n d_Sharing_workAt_14 rfl rfl ?_
  obtain ⟨t15, e_t15, h⟩ := q_bind h
  refine aw_ldi d_Sharing_workAt_15 e_t15 ?_
  obtain ⟨t16, e_t16, h⟩ := q_bind h
  refine aw_ldr d_Sharing_workAt_16 e_t16 ?_
  cases h
  exact aw_areturn d_Sharing_workAt_17 rfl (Nat.le_of_ble_eq_true rfl) (Nat.le_of_ble_eq_true rfl) ⟨rfl, rfl⟩
