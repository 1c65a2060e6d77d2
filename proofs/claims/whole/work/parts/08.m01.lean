-- Office_needArgument Office_needElement Office_needState Office_clear Office_greatestArgument Office_isWithin Model_thrown Model_fails Model_within Model_unawards Model_localOf Model_clock Model_isNight Model_nextRest Model_leastOf Model_mostOf Model_parts Model_flying
def y_Office_needArgument : MethodName := ⟨"CrewOffice", "needArgument", "(Z)V"⟩
def u_Office_needArgument : am_U := ("CrewOffice", "needArgument", prog_1_method_28_code, 1, none, [])
abbrev R_Office_needArgument : Room := am_nR
theorem d_Office_needArgument_0 : decode u_Office_needArgument.2.2.1 0 = .ok (.iload_n 0, 1) := by decide +kernel
theorem d_Office_needArgument_1 : decode u_Office_needArgument.2.2.1 1 = .ok (.ifCond .ne 13, 3) := by decide +kernel
theorem d_Office_needArgument_4 : decode u_Office_needArgument.2.2.1 4 = .ok (.new 232, 3) := by decide +kernel
theorem d_Office_needArgument_7 : decode u_Office_needArgument.2.2.1 7 = .ok (.dup, 1) := by decide +kernel
theorem d_Office_needArgument_8 : decode u_Office_needArgument.2.2.1 8 = .ok (.ldc 234, 2) := by decide +kernel
theorem d_Office_needArgument_10 : decode u_Office_needArgument.2.2.1 10 = .ok (.invokespecial 236, 3) := by decide +kernel
theorem d_Office_needArgument_13 : decode u_Office_needArgument.2.2.1 13 = .ok (.athrow, 1) := by decide +kernel
theorem d_Office_needArgument_14 : decode u_Office_needArgument.2.2.1 14 = .ok (.return_, 1) := by decide +kernel
theorem w_Office_needArgument : am_code y_Office_needArgument u_Office_needArgument ∈ am_ws := am_mem (List.mem_of_getElem? (i := 640) (by decide +kernel)) rfl
def f_Office_needArgument (M : am_M) (a0 : Int32) : Option ((Unit ⊕ Nat) × am_M) := some (if a0 = 0 then (.inr 0, am_px M) else (.inl (), M))
theorem mt_Office_needArgument {M : am_M} {a0 : Int32} {res : Unit ⊕ Nat} {M' : am_M} (h : f_Office_needArgument M a0 = some (res, M')) : AMet y_Office_needArgument u_Office_needArgument R_Office_needArgument [.int a0] M (fun r M2 => r = am_rU res ∧ M2 = M') := by
  unfold f_Office_needArgument at h
  by_cases hc : a0 = 0
  · rw [if_pos hc] at h
    cases h
    subst hc
    exact am_need (k := 0) (by decide) (by decide +kernel) w_Office_needArgument rfl rfl rfl rfl rfl rfl d_Office_needArgument_0 d_Office_needArgument_1 d_Office_needArgument_4 d_Office_needArgument_7 d_Office_needArgument_8 d_Office_needArgument_10 d_Office_needArgument_13
  · rw [if_neg hc] at h
    cases h
    refine am_met (by decide +kernel) w_Office_needArgument rfl rfl (Nat.le_of_ble_eq_true rfl) ?_
    show AW u_Office_needArgument R_Office_needArgument 0 0 0 [(0, .int a0)] [] M _
    refine aw_iload_n d_Office_needArgument_0 rfl rfl ?_
    refine aw_if_ne (tgt := 14) d_Office_needArgument_1 (by decide) (fun _ => ?_) (fun q => absurd q hc)
    exact aw_vreturn d_Office_needArgument_14 rfl (Nat.le_of_ble_eq_true rfl) (Nat.le_of_ble_eq_true rfl) ⟨rfl, rfl⟩
def y_Office_needElement : MethodName := ⟨"CrewOffice", "needElement", "(Z)V"⟩
def u_Office_needElement : am_U := ("CrewOffice", "needElement", prog_1_method_29_code, 1, none, [])
abbrev R_Office_needElement : Room := am_nR
theorem d_Office_needElement_0 : decode u_Office_needElement.2.2.1 0 = .ok (.iload_n 0, 1) := by decide +kernel
theorem d_Office_needElement_1 : decode u_Office_needElement.2.2.1 1 = .ok (.ifCond .ne 13, 3) := by decide +kernel
theorem d_Office_needElement_4 : decode u_Office_needElement.2.2.1 4 = .ok (.new 239, 3) := by decide +kernel
theorem d_Office_needElement_7 : decode u_Office_needElement.2.2.1 7 = .ok (.dup, 1) := by decide +kernel
theorem d_Office_needElement_8 : decode u_Office_needElement.2.2.1 8 = .ok (.ldc 241, 2) := by decide +kernel
theorem d_Office_needElement_10 : decode u_Office_needElement.2.2.1 10 = .ok (.invokespecial 243, 3) := by decide +kernel
theorem d_Office_needElement_13 : decode u_Office_needElement.2.2.1 13 = .ok (.athrow, 1) := by decide +kernel
theorem d_Office_needElement_14 : decode u_Office_needElement.2.2.1 14 = .ok (.return_, 1) := by decide +kernel
theorem w_Office_needElement : am_code y_Office_needElement u_Office_needElement ∈ am_ws := am_mem (List.mem_of_getElem? (i := 781) (by decide +kernel)) rfl
def f_Office_needElement (M : am_M) (a0 : Int32) : Option ((Unit ⊕ Nat) × am_M) := some (if a0 = 0 then (.inr 1, am_px M) else (.inl (), M))
theorem mt_Office_needElement {M : am_M} {a0 : Int32} {res : Unit ⊕ Nat} {M' : am_M} (h : f_Office_needElement M a0 = some (res, M')) : AMet y_Office_needElement u_Office_needElement R_Office_needElement [.int a0] M (fun r M2 => r = am_rU res ∧ M2 = M') := by
  unfold f_Office_needElement at h
  by_cases hc : a0 = 0
  · rw [if_pos hc] at h
    cases h
    subst hc
    exact am_need (k := 1) (by decide) (by decide +kernel) w_Office_needElement rfl rfl rfl rfl rfl rfl d_Office_needElement_0 d_Office_needElement_1 d_Office_needElement_4 d_Office_needElement_7 d_Office_needElement_8 d_Office_needElement_10 d_Office_needElement_13
  · rw [if_neg hc] at h
    cases h
    refine am_met (by decide +kernel) w_Office_needElement rfl rfl (Nat.le_of_ble_eq_true rfl) ?_
    show AW u_Office_needElement R_Office_needElement 0 0 0 [(0, .int a0)] [] M _
    refine aw_iload_n d_Office_needElement_0 rfl rfl ?_
    refine aw_if_ne (tgt := 14) d_Office_needElement_1 (by decide) (fun _ => ?_) (fun q => absurd q hc)
    exact aw_vreturn d_Office_needElement_14 rfl (Nat.le_of_ble_eq_true rfl) (Nat.le_of_ble_eq_true rfl) ⟨rfl, rfl⟩
def y_Office_needState : MethodName := ⟨"CrewOffice", "needState", "(Z)V"⟩
def u_Office_needState : am_U := ("CrewOffice", "needState", prog_1_method_30_code, 1, none, [])
abbrev R_Office_needState : Room := am_nR
theorem d_Office_needState_0 : decode u_Office_needState.2.2.1 0 = .ok (.iload_n 0, 1) := by decide +kernel
theorem d_Office_needState_1 : decode u_Office_needState.2.2.1 1 = .ok (.ifCond .ne 13, 3) := by decide +kernel
theorem d_Office_needState_4 : decode u_Office_needState.2.2.1 4 = .ok (.new 244, 3) := by decide +kernel
theorem d_Office_needState_7 : decode u_Office_needState.2.2.1 7 = .ok (.dup, 1) := by decide +kernel
theorem d_Office_needState_8 : decode u_Office_needState.2.2.1 8 = .ok (.ldc 246, 2) := by decide +kernel
theorem d_Office_needState_10 : decode u_Office_needState.2.2.1 10 = .ok (.invokespecial 248, 3) := by decide +kernel
theorem d_Office_needState_13 : decode u_Office_needState.2.2.1 13 = .ok (.athrow, 1) := by decide +kernel
theorem d_Office_needState_14 : decode u_Office_needState.2.2.1 14 = .ok (.return_, 1) := by decide +kernel
theorem w_Office_needState : am_code y_Office_needState u_Office_needState ∈ am_ws := am_mem (List.mem_of_getElem? (i := 808) (by decide +kernel)) rfl
def f_Office_needState (M : am_M) (a0 : Int32) : Option ((Unit ⊕ Nat) × am_M) := some (if a0 = 0 then (.inr 2, am_px M) else (.inl (), M))
theorem mt_Office_needState {M : am_M} {a0 : Int32} {res : Unit ⊕ Nat} {M' : am_M} (h : f_Office_needState M a0 = some (res, M')) : AMet y_Office_needState u_Office_needState R_Office_needState [.int a0] M (fun r M2 => r = am_rU res ∧ M2 = M') := by
  unfold f_Office_needState at h
  by_cases hc : a0 = 0
  · rw [if_pos hc] at h
    cases h
    subst hc
    exact am_need (k := 2) (by decide) (by decide +kernel) w_Office_needState rfl rfl rfl rfl rfl rfl d_Office_needState_0 d_Office_needState_1 d_Office_needState_4 d_Office_needState_7 d_Office_needState_8 d_Office_needState_10 d_Office_needState_13
  · rw [if_neg hc] at h
    cases h
    refine am_met (by decide +kernel) w_Office_needState rfl rfl (Nat.le_of_ble_eq_true rfl) ?_
    show AW u_Office_needState R_Office_needState 0 0 0 [(0, .int a0)] [] M _
    refine aw_iload_n d_Office_needState_0 rfl rfl ?_
    refine aw_if_ne (tgt := 14) d_Office_needState_1 (by decide) (fun _ => ?_) (fun q => absurd q hc)
    exact aw_vreturn d_Office_needState_14 rfl (Nat.le_of_ble_eq_true rfl) (Nat.le_of_ble_eq_true rfl) ⟨rfl, rfl⟩
def y_Office_clear : MethodName := ⟨"CrewOffice", "clear", "()I"⟩
def u_Office_clear : am_U := ("CrewOffice", "clear", prog_1_method_10_code, 2, (some .int), [])
def R_Office_clear : Room := { frames := 0, cells := 0, slots := 0, locals := 0 }
theorem d_Office_clear_0 : decode u_Office_clear.2.2.1 0 = .ok (.aload_n 0, 1) := by decide +kernel
theorem d_Office_clear_1 : decode u_Office_clear.2.2.1 1 = .ok (.getfield 21, 3) := by decide +kernel
theorem d_Office_clear_4 : decode u_Office_clear.2.2.1 4 = .ok (.getfield 122, 3) := by decide +kernel
theorem d_Office_clear_7 : decode u_Office_clear.2.2.1 7 = .ok (.getfield 126, 3) := by decide +kernel
theorem d_Office_clear_10 : decode u_Office_clear.2.2.1 10 = .ok (.istore_n 1, 1) := by decide +kernel
theorem d_Office_clear_11 : decode u_Office_clear.2.2.1 11 = .ok (.aload_n 0, 1) := by decide +kernel
theorem d_Office_clear_12 : decode u_Office_clear.2.2.1 12 = .ok (.getfield 21, 3) := by decide +kernel
theorem d_Office_clear_15 : decode u_Office_clear.2.2.1 15 = .ok (.getfield 122, 3) := by decide +kernel
theorem d_Office_clear_18 : decode u_Office_clear.2.2.1 18 = .ok (.iconst 0, 1) := by decide +kernel
theorem d_Office_clear_19 : decode u_Office_clear.2.2.1 19 = .ok (.putfield 126, 3) := by decide +kernel
theorem d_Office_clear_22 : decode u_Office_clear.2.2.1 22 = .ok (.iload_n 1, 1) := by decide +kernel
theorem d_Office_clear_23 : decode u_Office_clear.2.2.1 23 = .ok (.ireturn, 1) := by decide +kernel
theorem w_Office_clear : am_code y_Office_clear u_Office_clear ∈ am_ws := am_mem (List.mem_of_getElem? (i := 448) (by decide +kernel)) rfl
def e_Office_clear (M : am_M) (a0 : Nat) : Option (Int32 × am_M) := (q_gtr M a0 9 1).bind (fun t1 => (q_gtr M t1 5 1).bind (fun t4 => (q_gti M t4 4 1).bind (fun t7 => (q_gtr M a0 9 1).bind (fun t12 => (q_gtr M t12 5 1).bind (fun t15 => (q_pti M t15 4 1 (0 : Int32)).bind (fun M19 => some (t7, M19)))))))
def f_Office_clear (M : am_M) (a0 : Nat) : Option (Int32 × am_M) := e_Office_clear M a0
theorem fl_Office_21 : am_fl "CrewOffice" 21 9 1 := ⟨by decide, by decide, List.mem_of_getElem? (i := 430) (by decide +kernel)⟩
theorem fl_Office_122 : am_fl "CrewOffice" 122 5 1 := ⟨by decide, by decide, List.mem_of_getElem? (i := 314) (by decide +kernel)⟩
theorem fl_Office_126 : am_fl "CrewOffice" 126 4 1 := ⟨by decide, by decide, List.mem_of_getElem? (i := 267) (by decide +kernel)⟩
set_option maxHeartbeats 4000000 in
theorem mt_Office_clear {M : am_M} {a0 : Nat} {res : Int32} {M' : am_M} (h : f_Office_clear M a0 = some (res, M')) : AMet y_Office_clear u_Office_clear R_Office_clear [.ref a0] M (fun r M2 => r = .inl (some (.int res)) ∧ M2 = M') := by
  refine am_met (by decide +kernel) w_Office_clear rfl rfl (Nat.le_of_ble_eq_true rfl) ?_
  show AW u_Office_clear R_Office_clear 0 0 0 [(0, .ref a0)] [] M (fun r M2 => r = .inl (some (.int res)) ∧ M2 = M')
  unfold f_Office_clear at h
  unfold e_Office_clear at h
  refine aw_aload_n d_Office_clear_0 rfl rfl ?_
  obtain ⟨t1, e_t1, h⟩ := q_bind h
  refine aw_gtr d_Office_clear_1 fl_Office_21 (Or.inl ⟨_, rfl⟩) e_t1 ?_
  obtain ⟨t4, e_t4, h⟩ := q_bind h
  refine aw_gtr d_Office_clear_4 fl_Office_122 (Or.inl ⟨_, rfl⟩) e_t4 ?_
  obtain ⟨t7, e_t7, h⟩ := q_bind h
  refine aw_gti d_Office_clear_7 fl_Office_126 (Or.inl rfl) e_t7 ?_
  refine aw_istore_n (ls' := [(1, .int _), (0, .ref _)]) d_Office_clear_10 rfl (Nat.le_of_ble_eq_true rfl) rfl ?_
  refine aw_aload_n d_Office_clear_11 rfl rfl ?_
  obtain ⟨t12, e_t12, h⟩ := q_bind h
  refine aw_gtr d_Office_clear_12 fl_Office_21 (Or.inl ⟨_, rfl⟩) e_t12 ?_
  obtain ⟨t15, e_t15, h⟩ := q_bind h
  refine aw_gtr d_Office_clear_15 fl_Office_122 (Or.inl ⟨_, rfl⟩) e_t15 ?_
  refine aw_iconst (v := 0) d_Office_clear_18 (by decide) ?_
  obtain ⟨M19, e_M19, h⟩ := q_bind h
  refine aw_pti d_Office_clear_19 fl_Office_126 rfl rfl e_M19 ?_
  refine aw_iload_n d_Office_clear_22 rfl rfl ?_
  cases h
  exact aw_ireturn d_Office_clear_23 rfl (Nat.le_of_ble_eq_true rfl) (Nat.le_of_ble_eq_true rfl) ⟨rfl, rfl⟩
def y_Office_greatestArgument : MethodName := ⟨"CrewOffice", "greatestArgument", "(I)I"⟩
def u_Office_greatestArgument : am_U := ("CrewOffice", "greatestArgument", prog_1_method_26_code, 1, (some .int), [])
def R_Office_greatestArgument : Room := { frames := 0, cells := 0, slots := 0, locals := 0 }
theorem d_Office_greatestArgument_0 : decode u_Office_greatestArgument.2.2.1 0 = .ok (.iload_n 0, 1) := by decide +kernel
theorem d_Office_greatestArgument_1 : decode u_Office_greatestArgument.2.2.1 1 = .ok (.lookupswitch 32 #[(0, 27), (1, 30)], 27) := by decide +kernel
theorem d_Office_greatestArgument_28 : decode u_Office_greatestArgument.2.2.1 28 = .ok (.bipush 11, 2) := by decide +kernel
theorem d_Office_greatestArgument_30 : decode u_Office_greatestArgument.2.2.1 30 = .ok (.ireturn, 1) := by decide +kernel
theorem d_Office_greatestArgument_31 : decode u_Office_greatestArgument.2.2.1 31 = .ok (.iconst 4, 1) := by decide +kernel
theorem d_Office_greatestArgument_32 : decode u_Office_greatestArgument.2.2.1 32 = .ok (.ireturn, 1) := by decide +kernel
theorem d_Office_greatestArgument_33 : decode u_Office_greatestArgument.2.2.1 33 = .ok (.bipush 13, 2) := by decide +kernel
theorem d_Office_greatestArgument_35 : decode u_Office_greatestArgument.2.2.1 35 = .ok (.ireturn, 1) := by decide +kernel
theorem w_Office_greatestArgument : am_code y_Office_greatestArgument u_Office_greatestArgument ∈ am_ws := am_mem (List.mem_of_getElem? (i := 881) (by decide +kernel)) rfl
def e_Office_greatestArgument (M : am_M) (a0 : Int32) : Option (Int32) := if a0 = (0 : Int32) then (some (11 : Int32)) else if a0 = (1 : Int32) then (some (4 : Int32)) else (some (13 : Int32))
def f_Office_greatestArgument (M : am_M) (a0 : Int32) : Option (Int32) := e_Office_greatestArgument M a0
set_option maxHeartbeats 4000000 in
theorem mt_Office_greatestArgument {M : am_M} {a0 : Int32} {res : Int32} (h : f_Office_greatestArgument M a0 = some res) : AMet y_Office_greatestArgument u_Office_greatestArgument R_Office_greatestArgument [.int a0] M (fun r M2 => r = .inl (some (.int res)) ∧ M2 = M) := by
  refine am_met (by decide +kernel) w_Office_greatestArgument rfl rfl (Nat.le_of_ble_eq_true rfl) ?_
  show AW u_Office_greatestArgument R_Office_greatestArgument 0 0 0 [(0, .int a0)] [] M (fun r M2 => r = .inl (some (.int res)) ∧ M2 = M)
  unfold f_Office_greatestArgument at h
  unfold e_Office_greatestArgument at h
  refine aw_iload_n d_Office_greatestArgument_0 rfl rfl ?_
  by_cases c1_0 : a0 = (0 : Int32)
  · rw [if_pos c1_0] at h
    have hx : (a0).toInt = (0 : Int) := by rw [c1_0]; rfl
    refine aw_lookup (off := 27) (tgt := 28) d_Office_greatestArgument_1 (by decide) (by rw [hx]; rfl) (by decide) ?_
    refine aw_bipush (v := 11) d_Office_greatestArgument_28 (by decide) ?_
    cases h
    exact aw_ireturn d_Office_greatestArgument_30 rfl (Nat.le_of_ble_eq_true rfl) (Nat.le_of_ble_eq_true rfl) ⟨rfl, rfl⟩
  rw [if_neg c1_0] at h
  by_cases c1_1 : a0 = (1 : Int32)
  · rw [if_pos c1_1] at h
    have hx : (a0).toInt = (1 : Int) := by rw [c1_1]; rfl
    refine aw_lookup (off := 30) (tgt := 31) d_Office_greatestArgument_1 (by decide) (by rw [hx]; rfl) (by decide) ?_
    refine aw_iconst (v := 4) d_Office_greatestArgument_31 (by decide) ?_
    cases h
    exact aw_ireturn d_Office_greatestArgument_32 rfl (Nat.le_of_ble_eq_true rfl) (Nat.le_of_ble_eq_true rfl) ⟨rfl, rfl⟩
  rw [if_neg c1_1] at h
  refine aw_lookup (off := 32) (tgt := 33) d_Office_greatestArgument_1 (by decide) (by show Op.lookupswitch.offset [(0, 27), (1, 30)] _ _ = _; rw [lv_osw (a := 0) c1_0 rfl]; rw [lv_osw (a := 1) c1_1 rfl]; rfl) (by decide) ?_
  refine aw_bipush (v := 13) d_Office_greatestArgument_33 (by decide) ?_
  cases h
  exact aw_ireturn d_Office_greatestArgument_35 rfl (Nat.le_of_ble_eq_true rfl) (Nat.le_of_ble_eq_true rfl) ⟨rfl, rfl⟩
def y_Office_isWithin : MethodName := ⟨"CrewOffice", "isWithin", "(III)Z"⟩
def u_Office_isWithin : am_U := ("CrewOffice", "isWithin", prog_1_method_27_code, 3, (some .boolean), [])
def R_Office_isWithin : Room := { frames := 0, cells := 0, slots := 0, locals := 0 }
theorem d_Office_isWithin_0 : decode u_Office_isWithin.2.2.1 0 = .ok (.iload_n 1, 1) := by decide +kernel
theorem d_Office_isWithin_1 : decode u_Office_isWithin.2.2.1 1 = .ok (.iload_n 0, 1) := by decide +kernel
theorem d_Office_isWithin_2 : decode u_Office_isWithin.2.2.1 2 = .ok (.if_icmp .gt 12, 3) := by decide +kernel
theorem d_Office_isWithin_5 : decode u_Office_isWithin.2.2.1 5 = .ok (.iload_n 0, 1) := by decide +kernel
theorem d_Office_isWithin_6 : decode u_Office_isWithin.2.2.1 6 = .ok (.iload_n 2, 1) := by decide +kernel
theorem d_Office_isWithin_7 : decode u_Office_isWithin.2.2.1 7 = .ok (.if_icmp .gt 7, 3) := by decide +kernel
theorem d_Office_isWithin_10 : decode u_Office_isWithin.2.2.1 10 = .ok (.iconst 1, 1) := by decide +kernel
theorem d_Office_isWithin_11 : decode u_Office_isWithin.2.2.1 11 = .ok (.goto 4, 3) := by decide +kernel
theorem d_Office_isWithin_14 : decode u_Office_isWithin.2.2.1 14 = .ok (.iconst 0, 1) := by decide +kernel
theorem d_Office_isWithin_15 : decode u_Office_isWithin.2.2.1 15 = .ok (.ireturn, 1) := by decide +kernel
theorem w_Office_isWithin : am_code y_Office_isWithin u_Office_isWithin ∈ am_ws := am_mem (List.mem_of_getElem? (i := 637) (by decide +kernel)) rfl
def e_Office_isWithin (M : am_M) (a0 : Int32) (a1 : Int32) (a2 : Int32) : Option (Int32) := if a0 < a1 then (some (0 : Int32)) else (if a2 < a0 then (some (0 : Int32)) else (some (1 : Int32)))
def f_Office_isWithin (M : am_M) (a0 : Int32) (a1 : Int32) (a2 : Int32) : Option (Int32) := e_Office_isWithin M a0 a1 a2
set_option maxHeartbeats 4000000 in
theorem mt_Office_isWithin {M : am_M} {a0 : Int32} {a1 : Int32} {a2 : Int32} {res : Int32} (h : f_Office_isWithin M a0 a1 a2 = some res) : AMet y_Office_isWithin u_Office_isWithin R_Office_isWithin [.int a0, .int a1, .int a2] M (fun r M2 => r = .inl (some (.int res)) ∧ M2 = M) := by
  refine am_met (by decide +kernel) w_Office_isWithin rfl rfl (Nat.le_of_ble_eq_true rfl) ?_
  show AW u_Office_isWithin R_Office_isWithin 0 0 0 [(0, .int a0), (1, .int a1), (2, .int a2)] [] M (fun r M2 => r = .inl (some (.int res)) ∧ M2 = M)
  unfold f_Office_isWithin at h
  unfold e_Office_isWithin at h
  refine aw_iload_n d_Office_isWithin_0 rfl rfl ?_
  refine aw_iload_n d_Office_isWithin_1 rfl rfl ?_
  refine aw_icmp_gt (tgt := 14) d_Office_isWithin_2 (by decide) (fun hc => ?_) (fun hc => ?_)
  · rw [if_pos hc] at h
    refine aw_iconst (v := 0) d_Office_isWithin_14 (by decide) ?_
    cases h
    exact aw_zreturn d_Office_isWithin_15 rfl (by decide) (Nat.le_of_ble_eq_true rfl) (Nat.le_of_ble_eq_true rfl) ⟨rfl, rfl⟩
  · rw [if_neg hc] at h
    refine aw_iload_n d_Office_isWithin_5 rfl rfl ?_
    refine aw_iload_n d_Office_isWithin_6 rfl rfl ?_
    refine aw_icmp_gt (tgt := 14) d_Office_isWithin_7 (by decide) (fun hc => ?_) (fun hc => ?_)
    · rw [if_pos hc] at h
      refine aw_iconst (v := 0) d_Office_isWithin_14 (by decide) ?_
      cases h
      exact aw_zreturn d_Office_isWithin_15 rfl (by decide) (Nat.le_of_ble_eq_true rfl) (Nat.le_of_ble_eq_true rfl) ⟨rfl, rfl⟩
    · rw [if_neg hc] at h
      refine aw_iconst (v := 1) d_Office_isWithin_10 (by decide) ?_
      refine aw_goto (tgt := 15) d_Office_isWithin_11 (by decide) ?_
      cases h
      exact aw_zreturn d_Office_isWithin_15 rfl (by decide) (Nat.le_of_ble_eq_true rfl) (Nat.le_of_ble_eq_true rfl) ⟨rfl, rfl⟩
def y_Model_thrown : MethodName := ⟨"CrewOfficeModel", "thrown", "()I"⟩
def u_Model_thrown : am_U := ("CrewOfficeModel", "thrown", prog_12_method_2_code, 1, (some .int), [])
def R_Model_thrown : Room := { frames := 0, cells := 0, slots := 0, locals := 0 }
theorem d_Model_thrown_0 : decode u_Model_thrown.2.2.1 0 = .ok (.aload_n 0, 1) := by decide +kernel
theorem d_Model_thrown_1 : decode u_Model_thrown.2.2.1 1 = .ok (.getfield 155, 3) := by decide +kernel
theorem d_Model_thrown_4 : decode u_Model_thrown.2.2.1 4 = .ok (.ireturn, 1) := by decide +kernel
theorem w_Model_thrown : am_code y_Model_thrown u_Model_thrown ∈ am_ws := am_mem (List.mem_of_getElem? (i := 1173) (by decide +kernel)) rfl
def e_Model_thrown (M : am_M) (a0 : Nat) : Option (Int32) := (q_gti M a0 10 0).bind (fun t1 => some t1)
def f_Model_thrown (M : am_M) (a0 : Nat) : Option (Int32) := e_Model_thrown M a0
theorem fl_Model_155 : am_fl "CrewOfficeModel" 155 10 0 := ⟨by decide, by decide, List.mem_of_getElem? (i := 1006) (by decide +kernel)⟩
set_option maxHeartbeats 4000000 in
theorem mt_Model_thrown {M : am_M} {a0 : Nat} {res : Int32} (h : f_Model_thrown M a0 = some res) : AMet y_Model_thrown u_Model_thrown R_Model_thrown [.ref a0] M (fun r M2 => r = .inl (some (.int res)) ∧ M2 = M) := by
  refine am_met (by decide +kernel) w_Model_thrown rfl rfl (Nat.le_of_ble_eq_true rfl) ?_
  show AW u_Model_thrown R_Model_thrown 0 0 0 [(0, .ref a0)] [] M (fun r M2 => r = .inl (some (.int res)) ∧ M2 = M)
  unfold f_Model_thrown at h
  unfold e_Model_thrown at h
  refine aw_aload_n d_Model_thrown_0 rfl rfl ?_
  obtain ⟨t1, e_t1, h⟩ := q_bind h
  refine aw_gti d_Model_thrown_1 fl_Model_155 (Or.inl rfl) e_t1 ?_
  cases h
  exact aw_ireturn d_Model_thrown_4 rfl (Nat.le_of_ble_eq_true rfl) (Nat.le_of_ble_eq_true rfl) ⟨rfl, rfl⟩
def y_Model_fails : MethodName := ⟨"CrewOfficeModel", "fails", "(ZI)Z"⟩
def u_Model_fails : am_U := ("CrewOfficeModel", "fails", prog_12_method_3_code, 3, (some .boolean), [])
def R_Model_fails : Room := { frames := 0, cells := 0, slots := 0, locals := 0 }
theorem d_Model_fails_0 : decode u_Model_fails.2.2.1 0 = .ok (.aload_n 0, 1) := by decide +kernel
theorem d_Model_fails_1 : decode u_Model_fails.2.2.1 1 = .ok (.iload_n 1, 1) := by decide +kernel
theorem d_Model_fails_2 : decode u_Model_fails.2.2.1 2 = .ok (.ifCond .eq 7, 3) := by decide +kernel
theorem d_Model_fails_5 : decode u_Model_fails.2.2.1 5 = .ok (.iload_n 2, 1) := by decide +kernel
theorem d_Model_fails_6 : decode u_Model_fails.2.2.1 6 = .ok (.goto 4, 3) := by decide +kernel
theorem d_Model_fails_9 : decode u_Model_fails.2.2.1 9 = .ok (.iconst 0, 1) := by decide +kernel
theorem d_Model_fails_10 : decode u_Model_fails.2.2.1 10 = .ok (.putfield 155, 3) := by decide +kernel
theorem d_Model_fails_13 : decode u_Model_fails.2.2.1 13 = .ok (.iload_n 1, 1) := by decide +kernel
theorem d_Model_fails_14 : decode u_Model_fails.2.2.1 14 = .ok (.ireturn, 1) := by decide +kernel
theorem w_Model_fails : am_code y_Model_fails u_Model_fails ∈ am_ws := am_mem (List.mem_of_getElem? (i := 1184) (by decide +kernel)) rfl
def e_Model_fails (M : am_M) (a0 : Nat) (a1 : Int32) (a2 : Int32) : Option (Int32 × am_M) := if a1 = 0 then ((q_pti M a0 10 0 (0 : Int32)).bind (fun M10 => (q_z a1).bind (fun z14 => some (z14, M10)))) else ((q_pti M a0 10 0 a2).bind (fun M10 => (q_z a1).bind (fun z14 => some (z14, M10))))
def f_Model_fails (M : am_M) (a0 : Nat) (a1 : Int32) (a2 : Int32) : Option (Int32 × am_M) := e_Model_fails M a0 a1 a2
set_option maxHeartbeats 4000000 in
theorem mt_Model_fails {M : am_M} {a0 : Nat} {a1 : Int32} {a2 : Int32} {res : Int32} {M' : am_M} (h : f_Model_fails M a0 a1 a2 = some (res, M')) : AMet y_Model_fails u_Model_fails R_Model_fails [.ref a0, .int a1, .int a2] M (fun r M2 => r = .inl (some (.int res)) ∧ M2 = M') := by
  refine am_met (by decide +kernel) w_Model_fails rfl rfl (Nat.le_of_ble_eq_true rfl) ?_
  show AW u_Model_fails R_Model_fails 0 0 0 [(0, .ref a0), (1, .int a1), (2, .int a2)] [] M (fun r M2 => r = .inl (some (.int res)) ∧ M2 = M')
  unfold f_Model_fails at h
  unfold e_Model_fails at h
  refine aw_aload_n d_Model_fails_0 rfl rfl ?_
  refine aw_iload_n d_Model_fails_1 rfl rfl ?_
  refine aw_if_eq (tgt := 9) d_Model_fails_2 (by decide) (fun hc => ?_) (fun hc => ?_)
  · rw [if_pos hc] at h
    refine aw_iconst (v := 0) d_Model_fails_9 (by decide) ?_
    obtain ⟨M10, e_M10, h⟩ := q_bind h
    refine aw_pti d_Model_fails_10 fl_Model_155 rfl rfl e_M10 ?_
    refine aw_iload_n d_Model_fails_13 rfl rfl ?_
    obtain ⟨z14, e_z14, h⟩ := q_bind h
    obtain ⟨hz, hn⟩ := q_z_spec e_z14
    cases h
    rw [hz]
    exact aw_zreturn d_Model_fails_14 rfl hn (Nat.le_of_ble_eq_true rfl) (Nat.le_of_ble_eq_true rfl) ⟨rfl, rfl⟩
  · rw [if_neg hc] at h
    refine aw_iload_n d_Model_fails_5 rfl rfl ?_
    refine aw_goto (tgt := 10) d_Model_fails_6 (by decide) ?_
    obtain ⟨M10, e_M10, h⟩ := q_bind h
    refine aw_pti d_Model_fails_10 fl_Model_155 rfl rfl e_M10 ?_
    refine aw_iload_n d_Model_fails_13 rfl rfl ?_
    obtain ⟨z14, e_z14, h⟩ := q_bind h
    obtain ⟨hz, hn⟩ := q_z_spec e_z14
    cases h
    rw [hz]
    exact aw_zreturn d_Model_fails_14 rfl hn (Nat.le_of_ble_eq_true rfl) (Nat.le_of_ble_eq_true rfl) ⟨rfl, rfl⟩
def y_Model_within : MethodName := ⟨"CrewOfficeModel", "within", "(III)Z"⟩
def u_Model_within : am_U := ("CrewOfficeModel", "within", prog_12_method_4_code, 3, (some .boolean), [])
def R_Model_within : Room := { frames := 0, cells := 0, slots := 0, locals := 0 }
theorem d_Model_within_0 : decode u_Model_within.2.2.1 0 = .ok (.iload_n 0, 1) := by decide +kernel
theorem d_Model_within_1 : decode u_Model_within.2.2.1 1 = .ok (.iload_n 1, 1) := by decide +kernel
theorem d_Model_within_2 : decode u_Model_within.2.2.1 2 = .ok (.if_icmp .lt 12, 3) := by decide +kernel
theorem d_Model_within_5 : decode u_Model_within.2.2.1 5 = .ok (.iload_n 0, 1) := by decide +kernel
theorem d_Model_within_6 : decode u_Model_within.2.2.1 6 = .ok (.iload_n 2, 1) := by decide +kernel
theorem d_Model_within_7 : decode u_Model_within.2.2.1 7 = .ok (.if_icmp .gt 7, 3) := by decide +kernel
theorem d_Model_within_10 : decode u_Model_within.2.2.1 10 = .ok (.iconst 1, 1) := by decide +kernel
theorem d_Model_within_11 : decode u_Model_within.2.2.1 11 = .ok (.goto 4, 3) := by decide +kernel
theorem d_Model_within_14 : decode u_Model_within.2.2.1 14 = .ok (.iconst 0, 1) := by decide +kernel
theorem d_Model_within_15 : decode u_Model_within.2.2.1 15 = .ok (.ireturn, 1) := by decide +kernel
theorem w_Model_within : am_code y_Model_within u_Model_within ∈ am_ws := am_mem (List.mem_of_getElem? (i := 1180) (by decide +kernel)) rfl
def e_Model_within (M : am_M) (a0 : Int32) (a1 : Int32) (a2 : Int32) : Option (Int32) := if a0 < a1 then (some (0 : Int32)) else (if a2 < a0 then (some (0 : Int32)) else (some (1 : Int32)))
def f_Model_within (M : am_M) (a0 : Int32) (a1 : Int32) (a2 : Int32) : Option (Int32) := e_Model_within M a0 a1 a2
set_option maxHeartbeats 4000000 in
theorem mt_Model_within {M : am_M} {a0 : Int32} {a1 : Int32} {a2 : Int32} {res : Int32} (h : f_Model_within M a0 a1 a2 = some res) : AMet y_Model_within u_Model_within R_Model_within [.int a0, .int a1, .int a2] M (fun r M2 => r = .inl (some (.int res)) ∧ M2 = M) := by
  refine am_met (by decide +kernel) w_Model_within rfl rfl (Nat.le_of_ble_eq_true rfl) ?_
  show AW u_Model_within R_Model_within 0 0 0 [(0, .int a0), (1, .int a1), (2, .int a2)] [] M (fun r M2 => r = .inl (some (.int res)) ∧ M2 = M)
  unfold f_Model_within at h
  unfold e_Model_within at h
  refine aw_iload_n d_Model_within_0 rfl rfl ?_
  refine aw_iload_n d_Model_within_1 rfl rfl ?_
  refine aw_icmp_lt (tgt := 14) d_Model_within_2 (by decide) (fun hc => ?_) (fun hc => ?_)
  · rw [if_pos hc] at h
    refine aw_iconst (v := 0) d_Model_within_14 (by decide) ?_
    cases h
    exact aw_zreturn d_Model_within_15 rfl (by decide) (Nat.le_of_ble_eq_true rfl) (Nat.le_of_ble_eq_true rfl) ⟨rfl, rfl⟩
  · rw [if_neg hc] at h
    refine aw_iload_n d_Model_within_5 rfl rfl ?_
    refine aw_iload_n d_Model_within_6 rfl rfl ?_
    refine aw_icmp_gt (tgt := 14) d_Model_within_7 (by decide) (fun hc => ?_) (fun hc => ?_)
    · rw [if_pos hc] at h
      refine aw_iconst (v := 0) d_Model_within_14 (by decide) ?_
      cases h
      exact aw_zreturn d_Model_within_15 rfl (by decide) (Nat.le_of_ble_eq_true rfl) (Nat.le_of_ble_eq_true rfl) ⟨rfl, rfl⟩
    · rw [if_neg hc] at h
      refine aw_iconst (v := 1) d_Model_within_10 (by decide) ?_
      refine aw_goto (tgt := 15) d_Model_within_11 (by decide) ?_
      cases h
      exact aw_zreturn d_Model_within_15 rfl (by decide) (Nat.le_of_ble_eq_true rfl) (Nat.le_of_ble_eq_true rfl) ⟨rfl, rfl⟩
def y_Model_unawards : MethodName := ⟨"CrewOfficeModel", "unawards", "()V"⟩
def u_Model_unawards : am_U := ("CrewOfficeModel", "unawards", prog_12_method_7_code, 2, none, [])
def R_Model_unawards : Room := { frames := 0, cells := 0, slots := 0, locals := 0 }
theorem d_Model_unawards_0 : decode u_Model_unawards.2.2.1 0 = .ok (.iconst 0, 1) := by decide +kernel
theorem d_Model_unawards_1 : decode u_Model_unawards.2.2.1 1 = .ok (.istore_n 1, 1) := by decide +kernel
theorem d_Model_unawards_2 : decode u_Model_unawards.2.2.1 2 = .ok (.iload_n 1, 1) := by decide +kernel
theorem d_Model_unawards_3 : decode u_Model_unawards.2.2.1 3 = .ok (.bipush 40, 2) := by decide +kernel
theorem d_Model_unawards_5 : decode u_Model_unawards.2.2.1 5 = .ok (.if_icmp .ge 16, 3) := by decide +kernel
theorem d_Model_unawards_8 : decode u_Model_unawards.2.2.1 8 = .ok (.aload_n 0, 1) := by decide +kernel
theorem d_Model_unawards_9 : decode u_Model_unawards.2.2.1 9 = .ok (.getfield 127, 3) := by decide +kernel
theorem d_Model_unawards_12 : decode u_Model_unawards.2.2.1 12 = .ok (.iload_n 1, 1) := by decide +kernel
theorem d_Model_unawards_13 : decode u_Model_unawards.2.2.1 13 = .ok (.iconst (-1), 1) := by decide +kernel
theorem d_Model_unawards_14 : decode u_Model_unawards.2.2.1 14 = .ok (.iastore, 1) := by decide +kernel
theorem d_Model_unawards_15 : decode u_Model_unawards.2.2.1 15 = .ok (.iinc 1 1, 3) := by decide +kernel
theorem d_Model_unawards_18 : decode u_Model_unawards.2.2.1 18 = .ok (.goto (-16), 3) := by decide +kernel
theorem d_Model_unawards_21 : decode u_Model_unawards.2.2.1 21 = .ok (.return_, 1) := by decide +kernel
theorem w_Model_unawards : am_code y_Model_unawards u_Model_unawards ∈ am_ws := am_mem (List.mem_of_getElem? (i := 1196) (by decide +kernel)) rfl
def a_Model_unawards_0 (rc : Nat → Nat → Int32 → am_M → Option (Unit × am_M)) (r0 : Nat) (x1 : Int32) (M : am_M) : Option (Unit × am_M) := if (40 : Int32) ≤ x1 then (some ((), M)) else ((q_gtr M r0 10 43).bind (fun t9 => (q_sti M t9 x1 (-1 : Int32)).bind (fun M14 => rc 0 r0 (x1 + (1 : Int32)) M14)))
def g_Model_unawards : Nat → Nat → Nat → Int32 → am_M → Option (Unit × am_M)
  | 0, _, _, _, _ => none
  | F + 1, 0, r0, x1, M => a_Model_unawards_0 (g_Model_unawards F) r0 x1 M
  | _ + 1, _ + 1, _, _, _ => none
def e_Model_unawards (rc : Nat → Nat → Int32 → am_M → Option (Unit × am_M)) (M : am_M) (a0 : Nat) : Option (Unit × am_M) := rc 0 a0 (0 : Int32) M
def f_Model_unawards (M : am_M) (a0 : Nat) : Option (Unit × am_M) := e_Model_unawards (g_Model_unawards 1000000000) M a0
theorem fl_Model_127 : am_fl "CrewOfficeModel" 127 10 43 := ⟨by decide, by decide, List.mem_of_getElem? (i := 1049) (by decide +kernel)⟩
set_option maxHeartbeats 4000000 in
theorem s_Model_unawards_0 {rc : Nat → Nat → Int32 → am_M → Option (Unit × am_M)} {res : Unit} {M' : am_M} (ih_0 : ∀ (r0 : Nat) (x1 : Int32) (M : am_M), rc 0 r0 x1 M = some (res, M') → AW u_Model_unawards R_Model_unawards 0 0 2 [(0, .ref r0), (1, .int x1)] [] M (fun r M2 => r = .inl none ∧ M2 = M')) : ∀ (r0 : Nat) (x1 : Int32) (M : am_M), a_Model_unawards_0 rc r0 x1 M = some (res, M') → AW u_Model_unawards R_Model_unawards 0 0 2 [(0, .ref r0), (1, .int x1)] [] M (fun r M2 => r = .inl none ∧ M2 = M') := by
  intro r0 x1 M h
  unfold a_Model_unawards_0 at h
  refine aw_iload_n d_Model_unawards_2 rfl rfl ?_
  refine aw_bipush (v := 40) d_Model_unawards_3 (by decide) ?_
  refine aw_icmp_ge (tgt := 21) d_Model_unawards_5 (by decide) (fun hc => ?_) (fun hc => ?_)
  · rw [if_pos hc] at h
    cases h
    exact aw_vreturn d_Model_unawards_21 rfl (Nat.le_of_ble_eq_true rfl) (Nat.le_of_ble_eq_true rfl) ⟨rfl, rfl⟩
  · rw [if_neg hc] at h
    refine aw_aload_n d_Model_unawards_8 rfl rfl ?_
    obtain ⟨t9, e_t9, h⟩ := q_bind h
    refine aw_gtr d_Model_unawards_9 fl_Model_127 (Or.inr ⟨_, rfl⟩) e_t9 ?_
    refine aw_iload_n d_Model_unawards_12 rfl rfl ?_
    refine aw_iconst (v := -1) d_Model_unawards_13 (by decide) ?_
    obtain ⟨M14, e_M14, h⟩ := q_bind h
    refine aw_sti d_Model_unawards_14 e_M14 ?_
    refine aw_iinc (v := (x1 + (1 : Int32))) (ls' := [(1, .int _), (0, .ref _)]) d_Model_unawards_15 rfl rfl (Nat.le_of_ble_eq_true rfl) rfl ?_
    refine aw_goto (tgt := 2) d_Model_unawards_18 (by decide) ?_
    exact aw_pick [1, 0] rfl (ih_0 _ _ _ h)
theorem l_Model_unawards {res : Unit} {M' : am_M} : ∀ F : Nat, (∀ (r0 : Nat) (x1 : Int32) (M : am_M), g_Model_unawards F 0 r0 x1 M = some (res, M') → AW u_Model_unawards R_Model_unawards 0 0 2 [(0, .ref r0), (1, .int x1)] [] M (fun r M2 => r = .inl none ∧ M2 = M')) := by
  intro F
  induction F with
  | zero => exact fun _ _ _  h => (by cases h)
  | succ F ih =>
    have ih0 := ih
    exact s_Model_unawards_0 ih0
set_option maxHeartbeats 4000000 in
theorem mt_Model_unawards {M : am_M} {a0 : Nat} {res : Unit} {M' : am_M} (h : f_Model_unawards M a0 = some (res, M')) : AMet y_Model_unawards u_Model_unawards R_Model_unawards [.ref a0] M (fun r M2 => r = .inl none ∧ M2 = M') := by
  refine am_met (by decide +kernel) w_Model_unawards rfl rfl (Nat.le_of_ble_eq_true rfl) ?_
  show AW u_Model_unawards R_Model_unawards 0 0 0 [(0, .ref a0)] [] M (fun r M2 => r = .inl none ∧ M2 = M')
  have ih_0 := (l_Model_unawards (res := res) (M' := M') 1000000000)
  unfold f_Model_unawards at h
  unfold e_Model_unawards at h
  generalize g_Model_unawards 1000000000 = rc at h ih_0
  refine aw_iconst (v := 0) d_Model_unawards_0 (by decide) ?_
  refine aw_istore_n (ls' := [(1, .int _), (0, .ref _)]) d_Model_unawards_1 rfl (Nat.le_of_ble_eq_true rfl) rfl ?_
  exact aw_pick [1, 0] rfl (ih_0 _ _ _ h)
def y_Model_localOf : MethodName := ⟨"CrewOfficeModel", "localOf", "(II)I"⟩
def u_Model_localOf : am_U := ("CrewOfficeModel", "localOf", prog_12_method_8_code, 3, (some .int), [])
def R_Model_localOf : Room := { frames := 0, cells := 0, slots := 0, locals := 0 }
theorem d_Model_localOf_0 : decode u_Model_localOf.2.2.1 0 = .ok (.iload_n 2, 1) := by decide +kernel
theorem d_Model_localOf_1 : decode u_Model_localOf.2.2.1 1 = .ok (.iload_n 2, 1) := by decide +kernel
theorem d_Model_localOf_2 : decode u_Model_localOf.2.2.1 2 = .ok (.aload_n 0, 1) := by decide +kernel
theorem d_Model_localOf_3 : decode u_Model_localOf.2.2.1 3 = .ok (.getfield 13, 3) := by decide +kernel
theorem d_Model_localOf_6 : decode u_Model_localOf.2.2.1 6 = .ok (.iload_n 1, 1) := by decide +kernel
theorem d_Model_localOf_7 : decode u_Model_localOf.2.2.1 7 = .ok (.iaload, 1) := by decide +kernel
theorem d_Model_localOf_8 : decode u_Model_localOf.2.2.1 8 = .ok (.if_icmp .ge 12, 3) := by decide +kernel
theorem d_Model_localOf_11 : decode u_Model_localOf.2.2.1 11 = .ok (.aload_n 0, 1) := by decide +kernel
theorem d_Model_localOf_12 : decode u_Model_localOf.2.2.1 12 = .ok (.getfield 7, 3) := by decide +kernel
theorem d_Model_localOf_15 : decode u_Model_localOf.2.2.1 15 = .ok (.iload_n 1, 1) := by decide +kernel
theorem d_Model_localOf_16 : decode u_Model_localOf.2.2.1 16 = .ok (.iaload, 1) := by decide +kernel
theorem d_Model_localOf_17 : decode u_Model_localOf.2.2.1 17 = .ok (.goto 9, 3) := by decide +kernel
theorem d_Model_localOf_20 : decode u_Model_localOf.2.2.1 20 = .ok (.aload_n 0, 1) := by decide +kernel
theorem d_Model_localOf_21 : decode u_Model_localOf.2.2.1 21 = .ok (.getfield 16, 3) := by decide +kernel
theorem d_Model_localOf_24 : decode u_Model_localOf.2.2.1 24 = .ok (.iload_n 1, 1) := by decide +kernel
theorem d_Model_localOf_25 : decode u_Model_localOf.2.2.1 25 = .ok (.iaload, 1) := by decide +kernel
theorem d_Model_localOf_26 : decode u_Model_localOf.2.2.1 26 = .ok (.iadd, 1) := by decide +kernel
theorem d_Model_localOf_27 : decode u_Model_localOf.2.2.1 27 = .ok (.ireturn, 1) := by decide +kernel
theorem w_Model_localOf : am_code y_Model_localOf u_Model_localOf ∈ am_ws := am_mem (List.mem_of_getElem? (i := 1267) (by decide +kernel)) rfl
def e_Model_localOf (M : am_M) (a0 : Nat) (a1 : Int32) (a2 : Int32) : Option (Int32) := (q_gtr M a0 10 2).bind (fun t3 => (q_ldi M t3 a1).bind (fun t7 => if t7 ≤ a2 then ((q_gtr M a0 10 3).bind (fun t21 => (q_ldi M t21 a1).bind (fun t25 => some (a2 + t25)))) else ((q_gtr M a0 10 1).bind (fun t12 => (q_ldi M t12 a1).bind (fun t16 => some (a2 + t16))))))
def f_Model_localOf (M : am_M) (a0 : Nat) (a1 : Int32) (a2 : Int32) : Option (Int32) := e_Model_localOf M a0 a1 a2
theorem fl_Model_7 : am_fl "CrewOfficeModel" 7 10 1 := ⟨by decide, by decide, List.mem_of_getElem? (i := 1007) (by decide +kernel)⟩
theorem fl_Model_13 : am_fl "CrewOfficeModel" 13 10 2 := ⟨by decide, by decide, List.mem_of_getElem? (i := 1008) (by decide +kernel)⟩
theorem fl_Model_16 : am_fl "CrewOfficeModel" 16 10 3 := ⟨by decide, by decide, List.mem_of_getElem? (i := 1009) (by decide +kernel)⟩
set_option maxHeartbeats 4000000 in
theorem mt_Model_localOf {M : am_M} {a0 : Nat} {a1 : Int32} {a2 : Int32} {res : Int32} (h : f_Model_localOf M a0 a1 a2 = some res) : AMet y_Model_localOf u_Model_localOf R_Model_localOf [.ref a0, .int a1, .int a2] M (fun r M2 => r = .inl (some (.int res)) ∧ M2 = M) := by
  refine am_met (by decide +kernel) w_Model_localOf rfl rfl (Nat.le_of_ble_eq_true rfl) ?_
  show AW u_Model_localOf R_Model_localOf 0 0 0 [(0, .ref a0), (1, .int a1), (2, .int a2)] [] M (fun r M2 => r = .inl (some (.int res)) ∧ M2 = M)
  unfold f_Model_localOf at h
  unfold e_Model_localOf at h
  refine aw_iload_n d_Model_localOf_0 rfl rfl ?_
  refine aw_iload_n d_Model_localOf_1 rfl rfl ?_
  refine aw_aload_n d_Model_localOf_2 rfl rfl ?_
  obtain ⟨t3, e_t3, h⟩ := q_bind h
  refine aw_gtr d_Model_localOf_3 fl_Model_13 (Or.inr ⟨_, rfl⟩) e_t3 ?_
  refine aw_iload_n d_Model_localOf_6 rfl rfl ?_
  obtain ⟨t7, e_t7, h⟩ := q_bind h
  refine aw_ldi d_Model_localOf_7 e_t7 ?_
  refine aw_icmp_ge (tgt := 20) d_Model_localOf_8 (by decide) (fun hc => ?_) (fun hc => ?_)
  · rw [if_pos hc] at h
    refine aw_aload_n d_Model_localOf_20 rfl rfl ?_
    obtain ⟨t21, e_t21, h⟩ := q_bind h
    refine aw_gtr d_Model_localOf_21 fl_Model_16 (Or.inr ⟨_, rfl⟩) e_t21 ?_
    refine aw_iload_n d_Model_localOf_24 rfl rfl ?_
    obtain ⟨t25, e_t25, h⟩ := q_bind h
    refine aw_ldi d_Model_localOf_25 e_t25 ?_
    refine aw_iadd d_Model_localOf_26 ?_
    cases h
    exact aw_ireturn d_Model_localOf_27 rfl (Nat.le_of_ble_eq_true rfl) (Nat.le_of_ble_eq_true rfl) ⟨rfl, rfl⟩
  · rw [if_neg hc] at h
    refine aw_aload_n d_Model_localOf_11 rfl rfl ?_
    obtain ⟨t12, e_t12, h⟩ := q_bind h
    refine aw_gtr d_Model_localOf_12 fl_Model_7 (Or.inr ⟨_, rfl⟩) e_t12 ?_
    refine aw_iload_n d_Model_localOf_15 rfl rfl ?_
    obtain ⟨t16, e_t16, h⟩ := q_bind h
    refine aw_ldi d_Model_localOf_16 e_t16 ?_
    refine aw_goto (tgt := 26) d_Model_localOf_17 (by decide) ?_
    refine aw_iadd d_Model_localOf_26 ?_
    cases h
    exact aw_ireturn d_Model_localOf_27 rfl (Nat.le_of_ble_eq_true rfl) (Nat.le_of_ble_eq_true rfl) ⟨rfl, rfl⟩
def y_Model_clock : MethodName := ⟨"CrewOfficeModel", "clock", "(II)I"⟩
def u_Model_clock : am_U := ("CrewOfficeModel", "clock", prog_12_method_9_code, 3, (some .int), [])
def R_Model_clock : Room := { frames := 1, cells := 0, slots := 0, locals := 22 }
theorem d_Model_clock_0 : decode u_Model_clock.2.2.1 0 = .ok (.aload_n 0, 1) := by decide +kernel
theorem d_Model_clock_1 : decode u_Model_clock.2.2.1 1 = .ok (.iload_n 1, 1) := by decide +kernel
theorem d_Model_clock_2 : decode u_Model_clock.2.2.1 2 = .ok (.iload_n 2, 1) := by decide +kernel
theorem d_Model_clock_3 : decode u_Model_clock.2.2.1 3 = .ok (.invokevirtual 168, 3) := by decide +kernel
theorem d_Model_clock_6 : decode u_Model_clock.2.2.1 6 = .ok (.sipush 1440, 3) := by decide +kernel
theorem d_Model_clock_9 : decode u_Model_clock.2.2.1 9 = .ok (.irem, 1) := by decide +kernel
theorem d_Model_clock_10 : decode u_Model_clock.2.2.1 10 = .ok (.sipush 1440, 3) := by decide +kernel
theorem d_Model_clock_13 : decode u_Model_clock.2.2.1 13 = .ok (.iadd, 1) := by decide +kernel
theorem d_Model_clock_14 : decode u_Model_clock.2.2.1 14 = .ok (.sipush 1440, 3) := by decide +kernel
theorem d_Model_clock_17 : decode u_Model_clock.2.2.1 17 = .ok (.irem, 1) := by decide +kernel
theorem d_Model_clock_18 : decode u_Model_clock.2.2.1 18 = .ok (.ireturn, 1) := by decide +kernel
theorem w_Model_clock : am_code y_Model_clock u_Model_clock ∈ am_ws := am_mem (List.mem_of_getElem? (i := 1263) (by decide +kernel)) rfl
def e_Model_clock (M : am_M) (a0 : Nat) (a1 : Int32) (a2 : Int32) : Option (Int32) := (q_ob M a0 10).bind (fun o3 => (f_Model_localOf M a0 a1 a2).bind (fun t3 => (q_rem t3 (1440 : Int32)).bind (fun t9 => (q_rem (t9 + (1440 : Int32)) (1440 : Int32)).bind (fun t17 => some t17))))
def f_Model_clock (M : am_M) (a0 : Nat) (a1 : Int32) (a2 : Int32) : Option (Int32) := e_Model_clock M a0 a1 a2
theorem kV_Model_168 : am_kV "CrewOfficeModel" 168 10 y_Model_localOf u_Model_localOf 2 := ⟨List.mem_of_getElem? (i := 1264) (by decide +kernel), ⟨List.mem_of_getElem? (i := 1266) (by decide +kernel), List.mem_of_getElem? (i := 37) (by decide +kernel)⟩, List.mem_of_getElem? (i := 65) (by decide +kernel), w_Model_localOf, ⟨⟨by decide +kernel, by decide +kernel⟩, by decide +kernel⟩⟩
set_option maxHeartbeats 4000000 in
theorem mt_Model_clock {M : am_M} {a0 : Nat} {a1 : Int32} {a2 : Int32} {res : Int32} (h : f_Model_clock M a0 a1 a2 = some res) : AMet y_Model_clock u_Model_clock R_Model_clock [.ref a0, .int a1, .int a2] M (fun r M2 => r = .inl (some (.int res)) ∧ M2 = M) := by
  refine am_met (by decide +kernel) w_Model_clock rfl rfl (Nat.le_of_ble_eq_true rfl) ?_
  show AW u_Model_clock R_Model_clock 0 0 0 [(0, .ref a0), (1, .int a1), (2, .int a2)] [] M (fun r M2 => r = .inl (some (.int res)) ∧ M2 = M)
  unfold f_Model_clock at h
  unfold e_Model_clock at h
  refine aw_aload_n d_Model_clock_0 rfl rfl ?_
  refine aw_iload_n d_Model_clock_1 rfl rfl ?_
  refine aw_iload_n d_Model_clock_2 rfl rfl ?_
  obtain ⟨o3, e_o3, h⟩ := q_bind h
  obtain ⟨t3, e_t3, h⟩ := q_bind h
  refine aw_cV (v := (some (.int t3))) (As := [.int a1, .int a2]) (rest := []) (st' := [.int t3]) d_Model_clock_3 kV_Model_168 (q_ob_spec e_o3).1 (q_ob_spec e_o3).2 ⟨Nat.le_of_ble_eq_true rfl, Nat.le_of_ble_eq_true rfl, Nat.le_of_ble_eq_true rfl, Nat.le_of_ble_eq_true rfl⟩ rfl rfl (Nat.le_of_ble_eq_true rfl) rfl (mt_Model_localOf e_t3) ?_
  refine aw_sipush (v := 1440) d_Model_clock_6 (by decide) ?_
  obtain ⟨t9, e_t9, h⟩ := q_bind h
  refine aw_rem d_Model_clock_9 e_t9 ?_
  refine aw_sipush (v := 1440) d_Model_clock_10 (by decide) ?_
  refine aw_iadd d_Model_clock_13 ?_
  refine aw_sipush (v := 1440) d_Model_clock_14 (by decide) ?_
  obtain ⟨t17, e_t17, h⟩ := q_bind h
  refine aw_rem d_Model_clock_17 e_t17 ?_
  cases h
  exact aw_ireturn d_Model_clock_18 rfl (Nat.le_of_ble_eq_true rfl) (Nat.le_of_ble_eq_true rfl) ⟨rfl, rfl⟩
def y_Model_isNight : MethodName := ⟨"CrewOfficeModel", "isNight", "(II)Z"⟩
def u_Model_isNight : am_U := ("CrewOfficeModel", "isNight", prog_12_method_10_code, 4, (some .boolean), [])
def R_Model_isNight : Room := { frames := 2, cells := 0, slots := 0, locals := 44 }
theorem d_Model_isNight_0 : decode u_Model_isNight.2.2.1 0 = .ok (.aload_n 0, 1) := by decide +kernel
theorem d_Model_isNight_1 : decode u_Model_isNight.2.2.1 1 = .ok (.iload_n 1, 1) := by decide +kernel
theorem d_Model_isNight_2 : decode u_Model_isNight.2.2.1 2 = .ok (.iload_n 2, 1) := by decide +kernel
theorem d_Model_isNight_3 : decode u_Model_isNight.2.2.1 3 = .ok (.invokevirtual 172, 3) := by decide +kernel
theorem d_Model_isNight_6 : decode u_Model_isNight.2.2.1 6 = .ok (.istore_n 3, 1) := by decide +kernel
theorem d_Model_isNight_7 : decode u_Model_isNight.2.2.1 7 = .ok (.iload_n 3, 1) := by decide +kernel
theorem d_Model_isNight_8 : decode u_Model_isNight.2.2.1 8 = .ok (.sipush 360, 3) := by decide +kernel
theorem d_Model_isNight_11 : decode u_Model_isNight.2.2.1 11 = .ok (.if_icmp .lt 10, 3) := by decide +kernel
theorem d_Model_isNight_14 : decode u_Model_isNight.2.2.1 14 = .ok (.iload_n 3, 1) := by decide +kernel
theorem d_Model_isNight_15 : decode u_Model_isNight.2.2.1 15 = .ok (.sipush 1320, 3) := by decide +kernel
theorem d_Model_isNight_18 : decode u_Model_isNight.2.2.1 18 = .ok (.if_icmp .lt 7, 3) := by decide +kernel
theorem d_Model_isNight_21 : decode u_Model_isNight.2.2.1 21 = .ok (.iconst 1, 1) := by decide +kernel
theorem d_Model_isNight_22 : decode u_Model_isNight.2.2.1 22 = .ok (.goto 4, 3) := by decide +kernel
theorem d_Model_isNight_25 : decode u_Model_isNight.2.2.1 25 = .ok (.iconst 0, 1) := by decide +kernel
theorem d_Model_isNight_26 : decode u_Model_isNight.2.2.1 26 = .ok (.ireturn, 1) := by decide +kernel
theorem w_Model_isNight : am_code y_Model_isNight u_Model_isNight ∈ am_ws := am_mem (List.mem_of_getElem? (i := 1276) (by decide +kernel)) rfl
def a_Model_isNight_0 (rc : Nat → am_M → Option (Int32))  (M : am_M) : Option (Int32) := some (1 : Int32)
def g_Model_isNight : Nat → Nat → am_M → Option (Int32)
  | 0, _, _ => none
  | F + 1, 0, M => a_Model_isNight_0 (g_Model_isNight F) M
  | _ + 1, _ + 1, _ => none
def e_Model_isNight (rc : Nat → am_M → Option (Int32)) (M : am_M) (a0 : Nat) (a1 : Int32) (a2 : Int32) : Option (Int32) := (q_ob M a0 10).bind (fun o3 => (f_Model_clock M a0 a1 a2).bind (fun t3 => if t3 < (360 : Int32) then (rc 0  M) else (if t3 < (1320 : Int32) then (some (0 : Int32)) else (rc 0  M))))
def f_Model_isNight (M : am_M) (a0 : Nat) (a1 : Int32) (a2 : Int32) : Option (Int32) := e_Model_isNight (g_Model_isNight 1000000000) M a0 a1 a2
theorem kV_Model_172 : am_kV "CrewOfficeModel" 172 10 y_Model_clock u_Model_clock 2 := ⟨List.mem_of_getElem? (i := 1260) (by decide +kernel), ⟨List.mem_of_getElem? (i := 1262) (by decide +kernel), List.mem_of_getElem? (i := 36) (by decide +kernel)⟩, List.mem_of_getElem? (i := 65) (by decide +kernel), w_Model_clock, ⟨⟨by decide +kernel, by decide +kernel⟩, by decide +kernel⟩⟩
set_option maxHeartbeats 4000000 in
theorem s_Model_isNight_0 {rc : Nat → am_M → Option (Int32)} {res : Int32} (ih_0 : ∀  (M : am_M), rc 0  M = some res → AW u_Model_isNight R_Model_isNight 0 0 21 [] [] M (fun r M2 => r = .inl (some (.int res)) ∧ M2 = M)) : ∀  (M : am_M), a_Model_isNight_0 rc  M = some res → AW u_Model_isNight R_Model_isNight 0 0 21 [] [] M (fun r M2 => r = .inl (some (.int res)) ∧ M2 = M) := by
  intro  M h
  unfold a_Model_isNight_0 at h
  refine aw_iconst (v := 1) d_Model_isNight_21 (by decide) ?_
  refine aw_goto (tgt := 26) d_Model_isNight_22 (by decide) ?_
  cases h
  exact aw_zreturn d_Model_isNight_26 rfl (by decide) (Nat.le_of_ble_eq_true rfl) (Nat.le_of_ble_eq_true rfl) ⟨rfl, rfl⟩
theorem l_Model_isNight {res : Int32} : ∀ F : Nat, (∀  (M : am_M), g_Model_isNight F 0  M = some res → AW u_Model_isNight R_Model_isNight 0 0 21 [] [] M (fun r M2 => r = .inl (some (.int res)) ∧ M2 = M)) := by
  intro F
  induction F with
  | zero => exact fun _  h => (by cases h)
  | succ F ih =>
    have ih0 := ih
    exact s_Model_isNight_0 ih0
set_option maxHeartbeats 4000000 in
theorem mt_Model_isNight {M : am_M} {a0 : Nat} {a1 : Int32} {a2 : Int32} {res : Int32} (h : f_Model_isNight M a0 a1 a2 = some res) : AMet y_Model_isNight u_Model_isNight R_Model_isNight [.ref a0, .int a1, .int a2] M (fun r M2 => r = .inl (some (.int res)) ∧ M2 = M) := by
  refine am_met (by decide +kernel) w_Model_isNight rfl rfl (Nat.le_of_ble_eq_true rfl) ?_
  show AW u_Model_isNight R_Model_isNight 0 0 0 [(0, .ref a0), (1, .int a1), (2, .int a2)] [] M (fun r M2 => r = .inl (some (.int res)) ∧ M2 = M)
  have ih_0 := (l_Model_isNight (res := res) 1000000000)
  unfold f_Model_isNight at h
  unfold e_Model_isNight at h
  generalize g_Model_isNight 1000000000 = rc at h ih_0
  refine aw_aload_n d_Model_isNight_0 rfl rfl ?_
  refine aw_iload_n d_Model_isNight_1 rfl rfl ?_
  refine aw_iload_n d_Model_isNight_2 rfl rfl ?_
  obtain ⟨o3, e_o3, h⟩ := q_bind h
  obtain ⟨t3, e_t3, h⟩ := q_bind h
  refine aw_cV (v := (some (.int t3))) (As := [.int a1, .int a2]) (rest := []) (st' := [.int t3]) d_Model_isNight_3 kV_Model_172 (q_ob_spec e_o3).1 (q_ob_spec e_o3).2 ⟨Nat.le_of_ble_eq_true rfl, Nat.le_of_ble_eq_true rfl, Nat.le_of_ble_eq_true rfl, Nat.le_of_ble_eq_true rfl⟩ rfl rfl (Nat.le_of_ble_eq_true rfl) rfl (mt_Model_clock e_t3) ?_
  refine aw_istore_n (ls' := [(3, .int _), (0, .ref _), (1, .int _), (2, .int _)]) d_Model_isNight_6 rfl (Nat.le_of_ble_eq_true rfl) rfl ?_
  refine aw_iload_n d_Model_isNight_7 rfl rfl ?_
  refine aw_sipush (v := 360) d_Model_isNight_8 (by decide) ?_
  refine aw_icmp_lt (tgt := 21) d_Model_isNight_11 (by decide) (fun hc => ?_) (fun hc => ?_)
  · rw [if_pos hc] at h
    exact aw_pick [] rfl (ih_0 _ h)
  · rw [if_neg hc] at h
    refine aw_iload_n d_Model_isNight_14 rfl rfl ?_
    refine aw_sipush (v := 1320) d_Model_isNight_15 (by decide) ?_
    refine aw_icmp_lt (tgt := 25) d_Model_isNight_18 (by decide) (fun hc => ?_) (fun hc => ?_)
    · rw [if_pos hc] at h
      refine aw_iconst (v := 0) d_Model_isNight_25 (by decide) ?_
      cases h
      exact aw_zreturn d_Model_isNight_26 rfl (by decide) (Nat.le_of_ble_eq_true rfl) (Nat.le_of_ble_eq_true rfl) ⟨rfl, rfl⟩
    · rw [if_neg hc] at h
      exact aw_pick [] rfl (ih_0 _ h)
def y_Model_nextRest : MethodName := ⟨"CrewOfficeModel", "nextRest", "(II)I"⟩
def u_Model_nextRest : am_U := ("CrewOfficeModel", "nextRest", prog_12_method_11_code, 6, (some .int), [])
def R_Model_nextRest : Room := { frames := 3, cells := 0, slots := 0, locals := 67 }
theorem d_Model_nextRest_0 : decode u_Model_nextRest.2.2.1 0 = .ok (.aload_n 0, 1) := by decide +kernel
theorem d_Model_nextRest_1 : decode u_Model_nextRest.2.2.1 1 = .ok (.getfield 23, 3) := by decide +kernel
theorem d_Model_nextRest_4 : decode u_Model_nextRest.2.2.1 4 = .ok (.iload_n 1, 1) := by decide +kernel
theorem d_Model_nextRest_5 : decode u_Model_nextRest.2.2.1 5 = .ok (.baload, 1) := by decide +kernel
theorem d_Model_nextRest_6 : decode u_Model_nextRest.2.2.1 6 = .ok (.ifCond .ne 81, 3) := by decide +kernel
theorem d_Model_nextRest_9 : decode u_Model_nextRest.2.2.1 9 = .ok (.aload_n 0, 1) := by decide +kernel
theorem d_Model_nextRest_10 : decode u_Model_nextRest.2.2.1 10 = .ok (.getfield 23, 3) := by decide +kernel
theorem d_Model_nextRest_13 : decode u_Model_nextRest.2.2.1 13 = .ok (.iload_n 1, 1) := by decide +kernel
theorem d_Model_nextRest_14 : decode u_Model_nextRest.2.2.1 14 = .ok (.iconst 1, 1) := by decide +kernel
theorem d_Model_nextRest_15 : decode u_Model_nextRest.2.2.1 15 = .ok (.bastore, 1) := by decide +kernel
theorem d_Model_nextRest_16 : decode u_Model_nextRest.2.2.1 16 = .ok (.iconst 0, 1) := by decide +kernel
theorem d_Model_nextRest_17 : decode u_Model_nextRest.2.2.1 17 = .ok (.istore_n 3, 1) := by decide +kernel
theorem d_Model_nextRest_18 : decode u_Model_nextRest.2.2.1 18 = .ok (.ldc 175, 2) := by decide +kernel
theorem d_Model_nextRest_20 : decode u_Model_nextRest.2.2.1 20 = .ok (.istore 4, 2) := by decide +kernel
theorem d_Model_nextRest_22 : decode u_Model_nextRest.2.2.1 22 = .ok (.sipush 20699, 3) := by decide +kernel
theorem d_Model_nextRest_25 : decode u_Model_nextRest.2.2.1 25 = .ok (.istore 5, 2) := by decide +kernel
theorem d_Model_nextRest_27 : decode u_Model_nextRest.2.2.1 27 = .ok (.iload 5, 2) := by decide +kernel
theorem d_Model_nextRest_29 : decode u_Model_nextRest.2.2.1 29 = .ok (.ifCond .lt 58, 3) := by decide +kernel
theorem d_Model_nextRest_32 : decode u_Model_nextRest.2.2.1 32 = .ok (.aload_n 0, 1) := by decide +kernel
theorem d_Model_nextRest_33 : decode u_Model_nextRest.2.2.1 33 = .ok (.iload_n 1, 1) := by decide +kernel
theorem d_Model_nextRest_34 : decode u_Model_nextRest.2.2.1 34 = .ok (.iload 5, 2) := by decide +kernel
theorem d_Model_nextRest_36 : decode u_Model_nextRest.2.2.1 36 = .ok (.invokevirtual 176, 3) := by decide +kernel
theorem d_Model_nextRest_39 : decode u_Model_nextRest.2.2.1 39 = .ok (.ifCond .eq 9, 3) := by decide +kernel
theorem d_Model_nextRest_42 : decode u_Model_nextRest.2.2.1 42 = .ok (.iload_n 3, 1) := by decide +kernel
theorem d_Model_nextRest_43 : decode u_Model_nextRest.2.2.1 43 = .ok (.iconst 1, 1) := by decide +kernel
theorem d_Model_nextRest_44 : decode u_Model_nextRest.2.2.1 44 = .ok (.iadd, 1) := by decide +kernel
theorem d_Model_nextRest_45 : decode u_Model_nextRest.2.2.1 45 = .ok (.goto 4, 3) := by decide +kernel
theorem d_Model_nextRest_48 : decode u_Model_nextRest.2.2.1 48 = .ok (.iconst 0, 1) := by decide +kernel
theorem d_Model_nextRest_49 : decode u_Model_nextRest.2.2.1 49 = .ok (.istore_n 3, 1) := by decide +kernel
theorem d_Model_nextRest_50 : decode u_Model_nextRest.2.2.1 50 = .ok (.iload_n 3, 1) := by decide +kernel
theorem d_Model_nextRest_51 : decode u_Model_nextRest.2.2.1 51 = .ok (.sipush 480, 3) := by decide +kernel
theorem d_Model_nextRest_54 : decode u_Model_nextRest.2.2.1 54 = .ok (.if_icmp .lt 8, 3) := by decide +kernel
theorem d_Model_nextRest_57 : decode u_Model_nextRest.2.2.1 57 = .ok (.iload 5, 2) := by decide +kernel
theorem d_Model_nextRest_59 : decode u_Model_nextRest.2.2.1 59 = .ok (.goto 5, 3) := by decide +kernel
theorem d_Model_nextRest_62 : decode u_Model_nextRest.2.2.1 62 = .ok (.iload 4, 2) := by decide +kernel
theorem d_Model_nextRest_64 : decode u_Model_nextRest.2.2.1 64 = .ok (.istore 4, 2) := by decide +kernel
theorem d_Model_nextRest_66 : decode u_Model_nextRest.2.2.1 66 = .ok (.aload_n 0, 1) := by decide +kernel
theorem d_Model_nextRest_67 : decode u_Model_nextRest.2.2.1 67 = .ok (.getfield 20, 3) := by decide +kernel
theorem d_Model_nextRest_70 : decode u_Model_nextRest.2.2.1 70 = .ok (.sipush 20700, 3) := by decide +kernel
theorem d_Model_nextRest_73 : decode u_Model_nextRest.2.2.1 73 = .ok (.iload_n 1, 1) := by decide +kernel
theorem d_Model_nextRest_74 : decode u_Model_nextRest.2.2.1 74 = .ok (.imul, 1) := by decide +kernel
theorem d_Model_nextRest_75 : decode u_Model_nextRest.2.2.1 75 = .ok (.iload 5, 2) := by decide +kernel
theorem d_Model_nextRest_77 : decode u_Model_nextRest.2.2.1 77 = .ok (.iadd, 1) := by decide +kernel
theorem d_Model_nextRest_78 : decode u_Model_nextRest.2.2.1 78 = .ok (.iload 4, 2) := by decide +kernel
theorem d_Model_nextRest_80 : decode u_Model_nextRest.2.2.1 80 = .ok (.iastore, 1) := by decide +kernel
theorem d_Model_nextRest_81 : decode u_Model_nextRest.2.2.1 81 = .ok (.iinc 5 (-1), 3) := by decide +kernel
theorem d_Model_nextRest_84 : decode u_Model_nextRest.2.2.1 84 = .ok (.goto (-57), 3) := by decide +kernel
theorem d_Model_nextRest_87 : decode u_Model_nextRest.2.2.1 87 = .ok (.aload_n 0, 1) := by decide +kernel
theorem d_Model_nextRest_88 : decode u_Model_nextRest.2.2.1 88 = .ok (.getfield 20, 3) := by decide +kernel
theorem d_Model_nextRest_91 : decode u_Model_nextRest.2.2.1 91 = .ok (.sipush 20700, 3) := by decide +kernel
theorem d_Model_nextRest_94 : decode u_Model_nextRest.2.2.1 94 = .ok (.iload_n 1, 1) := by decide +kernel
theorem d_Model_nextRest_95 : decode u_Model_nextRest.2.2.1 95 = .ok (.imul, 1) := by decide +kernel
theorem d_Model_nextRest_96 : decode u_Model_nextRest.2.2.1 96 = .ok (.iload_n 2, 1) := by decide +kernel
theorem d_Model_nextRest_97 : decode u_Model_nextRest.2.2.1 97 = .ok (.iadd, 1) := by decide +kernel
theorem d_Model_nextRest_98 : decode u_Model_nextRest.2.2.1 98 = .ok (.iaload, 1) := by decide +kernel
theorem d_Model_nextRest_99 : decode u_Model_nextRest.2.2.1 99 = .ok (.ireturn, 1) := by decide +kernel
theorem w_Model_nextRest : am_code y_Model_nextRest u_Model_nextRest ∈ am_ws := am_mem (List.mem_of_getElem? (i := 1271) (by decide +kernel)) rfl
def a_Model_nextRest_0 (rc : Nat → Nat → Int32 → Int32 → Int32 → Int32 → Int32 → Int32 → am_M → Option (Int32 × am_M)) (r0 : Nat) (x1 : Int32) (x2 : Int32) (x3 : Int32) (x4 : Int32) (x5 : Int32) (s0 : Int32) (M : am_M) : Option (Int32 × am_M) := if x5 < 0 then (rc 3 r0 x1 x2 0 0 0 0 M) else ((q_ob M r0 10).bind (fun o36 => (f_Model_isNight M r0 x1 x5).bind (fun t36 => if t36 = 0 then (rc 1 r0 x1 x2 0 x4 x5 (0 : Int32) M) else (rc 1 r0 x1 x2 0 x4 x5 (x3 + (1 : Int32)) M))))
def a_Model_nextRest_1 (rc : Nat → Nat → Int32 → Int32 → Int32 → Int32 → Int32 → Int32 → am_M → Option (Int32 × am_M)) (r0 : Nat) (x1 : Int32) (x2 : Int32) (x3 : Int32) (x4 : Int32) (x5 : Int32) (s0 : Int32) (M : am_M) : Option (Int32 × am_M) := if s0 < (480 : Int32) then (rc 2 r0 x1 x2 s0 0 x5 x4 M) else (rc 2 r0 x1 x2 s0 0 x5 x5 M)
def a_Model_nextRest_2 (rc : Nat → Nat → Int32 → Int32 → Int32 → Int32 → Int32 → Int32 → am_M → Option (Int32 × am_M)) (r0 : Nat) (x1 : Int32) (x2 : Int32) (x3 : Int32) (x4 : Int32) (x5 : Int32) (s0 : Int32) (M : am_M) : Option (Int32 × am_M) := (q_gtr M r0 10 4).bind (fun t67 => (q_sti M t67 (((20700 : Int32) * x1) + x5) s0).bind (fun M80 => rc 0 r0 x1 x2 x3 s0 (x5 + (-1 : Int32)) 0 M80))
def a_Model_nextRest_3 (rc : Nat → Nat → Int32 → Int32 → Int32 → Int32 → Int32 → Int32 → am_M → Option (Int32 × am_M)) (r0 : Nat) (x1 : Int32) (x2 : Int32) (x3 : Int32) (x4 : Int32) (x5 : Int32) (s0 : Int32) (M : am_M) : Option (Int32 × am_M) := (q_gtr M r0 10 4).bind (fun t88 => (q_ldi M t88 (((20700 : Int32) * x1) + x2)).bind (fun t98 => some (t98, M)))
def g_Model_nextRest : Nat → Nat → Nat → Int32 → Int32 → Int32 → Int32 → Int32 → Int32 → am_M → Option (Int32 × am_M)
  | 0, _, _, _, _, _, _, _, _, _ => none
  | F + 1, 0, r0, x1, x2, x3, x4, x5, s0, M => a_Model_nextRest_0 (g_Model_nextRest F) r0 x1 x2 x3 x4 x5 s0 M
  | F + 1, 1, r0, x1, x2, x3, x4, x5, s0, M => a_Model_nextRest_1 (g_Model_nextRest F) r0 x1 x2 x3 x4 x5 s0 M
  | F + 1, 2, r0, x1, x2, x3, x4, x5, s0, M => a_Model_nextRest_2 (g_Model_nextRest F) r0 x1 x2 x3 x4 x5 s0 M
  | F + 1, 3, r0, x1, x2, x3, x4, x5, s0, M => a_Model_nextRest_3 (g_Model_nextRest F) r0 x1 x2 x3 x4 x5 s0 M
  | _ + 1, _ + 4, _, _, _, _, _, _, _, _ => none
def e_Model_nextRest (rc : Nat → Nat → Int32 → Int32 → Int32 → Int32 → Int32 → Int32 → am_M → Option (Int32 × am_M)) (M : am_M) (a0 : Nat) (a1 : Int32) (a2 : Int32) : Option (Int32 × am_M) := (q_gtr M a0 10 5).bind (fun t1 => (q_ldz M t1 a1).bind (fun t5 => if t5 = 0 then ((q_gtr M a0 10 5).bind (fun t10 => (q_stz M t10 a1 (1 : Int32)).bind (fun M15 => rc 0 a0 a1 a2 (0 : Int32) (1000000 : Int32) (20699 : Int32) 0 M15))) else (rc 3 a0 a1 a2 0 0 0 0 M)))
def f_Model_nextRest (M : am_M) (a0 : Nat) (a1 : Int32) (a2 : Int32) : Option (Int32 × am_M) := e_Model_nextRest (g_Model_nextRest 1000000000) M a0 a1 a2
theorem fl_Model_20 : am_fl "CrewOfficeModel" 20 10 4 := ⟨by decide, by decide, List.mem_of_getElem? (i := 1010) (by decide +kernel)⟩
theorem fl_Model_23 : am_fl "CrewOfficeModel" 23 10 5 := ⟨by decide, by decide, List.mem_of_getElem? (i := 1011) (by decide +kernel)⟩
theorem kV_Model_176 : am_kV "CrewOfficeModel" 176 10 y_Model_isNight u_Model_isNight 2 := ⟨List.mem_of_getElem? (i := 1273) (by decide +kernel), ⟨List.mem_of_getElem? (i := 1275) (by decide +kernel), List.mem_of_getElem? (i := 39) (by decide +kernel)⟩, List.mem_of_getElem? (i := 65) (by decide +kernel), w_Model_isNight, ⟨⟨by decide +kernel, by decide +kernel⟩, by decide +kernel⟩⟩
set_option maxHeartbeats 4000000 in
theorem s_Model_nextRest_0 {rc : Nat → Nat → Int32 → Int32 → Int32 → Int32 → Int32 → Int32 → am_M → Option (Int32 × am_M)} {res : Int32} {M' : am_M} (ih_0 : ∀ (r0 : Nat) (x1 : Int32) (x2 : Int32) (x3 : Int32) (x4 : Int32) (x5 : Int32) (s0 : Int32) (M : am_M), rc 0 r0 x1 x2 x3 x4 x5 s0 M = some (res, M') → AW u_Model_nextRest R_Model_nextRest 0 0 27 [(0, .ref r0), (1, .int x1), (2, .int x2), (3, .int x3), (4, .int x4), (5, .int x5)] [] M (fun r M2 => r = .inl (some (.int res)) ∧ M2 = M')) (ih_1 : ∀ (r0 : Nat) (x1 : Int32) (x2 : Int32) (x3 : Int32) (x4 : Int32) (x5 : Int32) (s0 : Int32) (M : am_M), rc 1 r0 x1 x2 x3 x4 x5 s0 M = some (res, M') → AW u_Model_nextRest R_Model_nextRest 0 0 49 [(0, .ref r0), (1, .int x1), (2, .int x2), (4, .int x4), (5, .int x5)] [.int s0] M (fun r M2 => r = .inl (some (.int res)) ∧ M2 = M')) (ih_2 : ∀ (r0 : Nat) (x1 : Int32) (x2 : Int32) (x3 : Int32) (x4 : Int32) (x5 : Int32) (s0 : Int32) (M : am_M), rc 2 r0 x1 x2 x3 x4 x5 s0 M = some (res, M') → AW u_Model_nextRest R_Model_nextRest 0 0 64 [(0, .ref r0), (1, .int x1), (2, .int x2), (3, .int x3), (5, .int x5)] [.int s0] M (fun r M2 => r = .inl (some (.int res)) ∧ M2 = M')) (ih_3 : ∀ (r0 : Nat) (x1 : Int32) (x2 : Int32) (x3 : Int32) (x4 : Int32) (x5 : Int32) (s0 : Int32) (M : am_M), rc 3 r0 x1 x2 x3 x4 x5 s0 M = some (res, M') → AW u_Model_nextRest R_Model_nextRest 0 0 87 [(0, .ref r0), (1, .int x1), (2, .int x2)] [] M (fun r M2 => r = .inl (some (.int res)) ∧ M2 = M')) : ∀ (r0 : Nat) (x1 : Int32) (x2 : Int32) (x3 : Int32) (x4 : Int32) (x5 : Int32) (s0 : Int32) (M : am_M), a_Model_nextRest_0 rc r0 x1 x2 x3 x4 x5 s0 M = some (res, M') → AW u_Model_nextRest R_Model_nextRest 0 0 27 [(0, .ref r0), (1, .int x1), (2, .int x2), (3, .int x3), (4, .int x4), (5, .int x5)] [] M (fun r M2 => r = .inl (some (.int res)) ∧ M2 = M') := by
  intro r0 x1 x2 x3 x4 x5 s0 M h
  unfold a_Model_nextRest_0 at h
  refine aw_iload d_Model_nextRest_27 rfl ?_
  refine aw_if_lt (tgt := 87) d_Model_nextRest_29 (by decide) (fun hc => ?_) (fun hc => ?_)
  · rw [if_pos hc] at h
    exact aw_pick [0, 1, 2] rfl (ih_3 _ _ _ _ _ _ _ _ h)
  · rw [if_neg hc] at h
    refine aw_aload_n d_Model_nextRest_32 rfl rfl ?_
    refine aw_iload_n d_Model_nextRest_33 rfl rfl ?_
    refine aw_iload d_Model_nextRest_34 rfl ?_
    obtain ⟨o36, e_o36, h⟩ := q_bind h
    obtain ⟨t36, e_t36, h⟩ := q_bind h
    refine aw_cV (v := (some (.int t36))) (As := [.int x1, .int x5]) (rest := []) (st' := [.int t36]) d_Model_nextRest_36 kV_Model_176 (q_ob_spec e_o36).1 (q_ob_spec e_o36).2 ⟨Nat.le_of_ble_eq_true rfl, Nat.le_of_ble_eq_true rfl, Nat.le_of_ble_eq_true rfl, Nat.le_of_ble_eq_true rfl⟩ rfl rfl (Nat.le_of_ble_eq_true rfl) rfl (mt_Model_isNight e_t36) ?_
    refine aw_if_eq (tgt := 48) d_Model_nextRest_39 (by decide) (fun hc => ?_) (fun hc => ?_)
    · rw [if_pos hc] at h
      refine aw_iconst (v := 0) d_Model_nextRest_48 (by decide) ?_
      exact aw_pick [0, 1, 2, 4, 5] rfl (ih_1 _ _ _ _ _ _ _ _ h)
    · rw [if_neg hc] at h
      refine aw_iload_n d_Model_nextRest_42 rfl rfl ?_
      refine aw_iconst (v := 1) d_Model_nextRest_43 (by decide) ?_
      refine aw_iadd d_Model_nextRest_44 ?_
      refine aw_goto (tgt := 49) d_Model_nextRest_45 (by decide) ?_
      exact aw_pick [0, 1, 2, 4, 5] rfl (ih_1 _ _ _ _ _ _ _ _ h)
set_option maxHeartbeats 4000000 in
theorem s_Model_nextRest_1 {rc : Nat → Nat → Int32 → Int32 → Int32 → Int32 → Int32 → Int32 → am_M → Option (Int32 × am_M)} {res : Int32} {M' : am_M} (ih_0 : ∀ (r0 : Nat) (x1 : Int32) (x2 : Int32) (x3 : Int32) (x4 : Int32) (x5 : Int32) (s0 : Int32) (M : am_M), rc 0 r0 x1 x2 x3 x4 x5 s0 M = some (res, M') → AW u_Model_nextRest R_Model_nextRest 0 0 27 [(0, .ref r0), (1, .int x1), (2, .int x2), (3, .int x3), (4, .int x4), (5, .int x5)] [] M (fun r M2 => r = .inl (some (.int res)) ∧ M2 = M')) (ih_1 : ∀ (r0 : Nat) (x1 : Int32) (x2 : Int32) (x3 : Int32) (x4 : Int32) (x5 : Int32) (s0 : Int32) (M : am_M), rc 1 r0 x1 x2 x3 x4 x5 s0 M = some (res, M') → AW u_Model_nextRest R_Model_nextRest 0 0 49 [(0, .ref r0), (1, .int x1), (2, .int x2), (4, .int x4), (5, .int x5)] [.int s0] M (fun r M2 => r = .inl (some (.int res)) ∧ M2 = M')) (ih_2 : ∀ (r0 : Nat) (x1 : Int32) (x2 : Int32) (x3 : Int32) (x4 : Int32) (x5 : Int32) (s0 : Int32) (M : am_M), rc 2 r0 x1 x2 x3 x4 x5 s0 M = some (res, M') → AW u_Model_nextRest R_Model_nextRest 0 0 64 [(0, .ref r0), (1, .int x1), (2, .int x2), (3, .int x3), (5, .int x5)] [.int s0] M (fun r M2 => r = .inl (some (.int res)) ∧ M2 = M')) (ih_3 : ∀ (r0 : Nat) (x1 : Int32) (x2 : Int32) (x3 : Int32) (x4 : Int32) (x5 : Int32) (s0 : Int32) (M : am_M), rc 3 r0 x1 x2 x3 x4 x5 s0 M = some (res, M') → AW u_Model_nextRest R_Model_nextRest 0 0 87 [(0, .ref r0), (1, .int x1), (2, .int x2)] [] M (fun r M2 => r = .inl (some (.int res)) ∧ M2 = M')) : ∀ (r0 : Nat) (x1 : Int32) (x2 : Int32) (x3 : Int32) (x4 : Int32) (x5 : Int32) (s0 : Int32) (M : am_M), a_Model_nextRest_1 rc r0 x1 x2 x3 x4 x5 s0 M = some (res, M') → AW u_Model_nextRest R_Model_nextRest 0 0 49 [(0, .ref r0), (1, .int x1), (2, .int x2), (4, .int x4), (5, .int x5)] [.int s0] M (fun r M2 => r = .inl (some (.int res)) ∧ M2 = M') := by
  intro r0 x1 x2 x3 x4 x5 s0 M h
  unfold a_Model_nextRest_1 at h
  refine aw_istore_n (ls' := [(3, .int _), (0, .ref _), (1, .int _), (2, .int _), (4, .int _), (5, .int _)]) d_Model_nextRest_49 rfl (Nat.le_of_ble_eq_true rfl) rfl ?_
  refine aw_iload_n d_Model_nextRest_50 rfl rfl ?_
  refine aw_sipush (v := 480) d_Model_nextRest_51 (by decide) ?_
  refine aw_icmp_lt (tgt := 62) d_Model_nextRest_54 (by decide) (fun hc => ?_) (fun hc => ?_)
  · rw [if_pos hc] at h
    refine aw_iload d_Model_nextRest_62 rfl ?_
    exact aw_pick [1, 2, 3, 0, 5] rfl (ih_2 _ _ _ _ _ _ _ _ h)
  · rw [if_neg hc] at h
    refine aw_iload d_Model_nextRest_57 rfl ?_
    refine aw_goto (tgt := 64) d_Model_nextRest_59 (by decide) ?_
    exact aw_pick [1, 2, 3, 0, 5] rfl (ih_2 _ _ _ _ _ _ _ _ h)
set_option maxHeartbeats 4000000 in
theorem s_Model_nextRest_2 {rc : Nat → Nat → Int32 → Int32 → Int32 → Int32 → Int32 → Int32 → am_M → Option (Int32 × am_M)} {res : Int32} {M' : am_M} (ih_0 : ∀ (r0 : Nat) (x1 : Int32) (x2 : Int32) (x3 : Int32) (x4 : Int32) (x5 : Int32) (s0 : Int32) (M : am_M), rc 0 r0 x1 x2 x3 x4 x5 s0 M = some (res, M') → AW u_Model_nextRest R_Model_nextRest 0 0 27 [(0, .ref r0), (1, .int x1), (2, .int x2), (3, .int x3), (4, .int x4), (5, .int x5)] [] M (fun r M2 => r = .inl (some (.int res)) ∧ M2 = M')) (ih_1 : ∀ (r0 : Nat) (x1 : Int32) (x2 : Int32) (x3 : Int32) (x4 : Int32) (x5 : Int32) (s0 : Int32) (M : am_M), rc 1 r0 x1 x2 x3 x4 x5 s0 M = some (res, M') → AW u_Model_nextRest R_Model_nextRest 0 0 49 [(0, .ref r0), (1, .int x1), (2, .int x2), (4, .int x4), (5, .int x5)] [.int s0] M (fun r M2 => r = .inl (some (.int res)) ∧ M2 = M')) (ih_2 : ∀ (r0 : Nat) (x1 : Int32) (x2 : Int32) (x3 : Int32) (x4 : Int32) (x5 : Int32) (s0 : Int32) (M : am_M), rc 2 r0 x1 x2 x3 x4 x5 s0 M = some (res, M') → AW u_Model_nextRest R_Model_nextRest 0 0 64 [(0, .ref r0), (1, .int x1), (2, .int x2), (3, .int x3), (5, .int x5)] [.int s0] M (fun r M2 => r = .inl (some (.int res)) ∧ M2 = M')) (ih_3 : ∀ (r0 : Nat) (x1 : Int32) (x2 : Int32) (x3 : Int32) (x4 : Int32) (x5 : Int32) (s0 : Int32) (M : am_M), rc 3 r0 x1 x2 x3 x4 x5 s0 M = some (res, M') → AW u_Model_nextRest R_Model_nextRest 0 0 87 [(0, .ref r0), (1, .int x1), (2, .int x2)] [] M (fun r M2 => r = .inl (some (.int res)) ∧ M2 = M')) : ∀ (r0 : Nat) (x1 : Int32) (x2 : Int32) (x3 : Int32) (x4 : Int32) (x5 : Int32) (s0 : Int32) (M : am_M), a_Model_nextRest_2 rc r0 x1 x2 x3 x4 x5 s0 M = some (res, M') → AW u_Model_nextRest R_Model_nextRest 0 0 64 [(0, .ref r0), (1, .int x1), (2, .int x2), (3, .int x3), (5, .int x5)] [.int s0] M (fun r M2 => r = .inl (some (.int res)) ∧ M2 = M') := by
  intro r0 x1 x2 x3 x4 x5 s0 M h
  unfold a_Model_nextRest_2 at h
  refine aw_istore (ls' := [(4, .int _), (0, .ref _), (1, .int _), (2, .int _), (3, .int _), (5, .int _)]) d_Model_nextRest_64 (Nat.le_of_ble_eq_true rfl) rfl ?_
  refine aw_aload_n d_Model_nextRest_66 rfl rfl ?_
  obtain ⟨t67, e_t67, h⟩ := q_bind h
  refine aw_gtr d_Model_nextRest_67 fl_Model_20 (Or.inr ⟨_, rfl⟩) e_t67 ?_
  refine aw_sipush (v := 20700) d_Model_nextRest_70 (by decide) ?_
  refine aw_iload_n d_Model_nextRest_73 rfl rfl ?_
  refine aw_imul d_Model_nextRest_74 ?_
  refine aw_iload d_Model_nextRest_75 rfl ?_
  refine aw_iadd d_Model_nextRest_77 ?_
  refine aw_iload d_Model_nextRest_78 rfl ?_
  obtain ⟨M80, e_M80, h⟩ := q_bind h
  refine aw_sti d_Model_nextRest_80 e_M80 ?_
  refine aw_iinc (v := (x5 + (-1 : Int32))) (ls' := [(5, .int _), (4, .int _), (0, .ref _), (1, .int _), (2, .int _), (3, .int _)]) d_Model_nextRest_81 rfl rfl (Nat.le_of_ble_eq_true rfl) rfl ?_
  refine aw_goto (tgt := 27) d_Model_nextRest_84 (by decide) ?_
  exact aw_pick [2, 3, 4, 5, 1, 0] rfl (ih_0 _ _ _ _ _ _ _ _ h)
set_option maxHeartbeats 4000000 in
theorem s_Model_nextRest_3 {rc : Nat → Nat → Int32 → Int32 → Int32 → Int32 → Int32 → Int32 → am_M → Option (Int32 × am_M)} {res : Int32} {M' : am_M} (ih_0 : ∀ (r0 : Nat) (x1 : Int32) (x2 : Int32) (x3 : Int32) (x4 : Int32) (x5 : Int32) (s0 : Int32) (M : am_M), rc 0 r0 x1 x2 x3 x4 x5 s0 M = some (res, M') → AW u_Model_nextRest R_Model_nextRest 0 0 27 [(0, .ref r0), (1, .int x1), (2, .int x2), (3, .int x3), (4, .int x4), (5, .int x5)] [] M (fun r M2 => r = .inl (some (.int res)) ∧ M2 = M')) (ih_1 : ∀ (r0 : Nat) (x1 : Int32) (x2 : Int32) (x3 : Int32) (x4 : Int32) (x5 : Int32) (s0 : Int32) (M : am_M), rc 1 r0 x1 x2 x3 x4 x5 s0 M = some (res, M') → AW u_Model_nextRest R_Model_nextRest 0 0 49 [(0, .ref r0), (1, .int x1), (2, .int x2), (4, .int x4), (5, .int x5)] [.int s0] M (fun r M2 => r = .inl (some (.int res)) ∧ M2 = M')) (ih_2 : ∀ (r0 : Nat) (x1 : Int32) (x2 : Int32) (x3 : Int32) (x4 : Int32) (x5 : Int32) (s0 : Int32) (M : am_M), rc 2 r0 x1 x2 x3 x4 x5 s0 M = some (res, M') → AW u_Model_nextRest R_Model_nextRest 0 0 64 [(0, .ref r0), (1, .int x1), (2, .int x2), (3, .int x3), (5, .int x5)] [.int s0] M (fun r M2 => r = .inl (some (.int res)) ∧ M2 = M')) (ih_3 : ∀ (r0 : Nat) (x1 : Int32) (x2 : Int32) (x3 : Int32) (x4 : Int32) (x5 : Int32) (s0 : Int32) (M : am_M), rc 3 r0 x1 x2 x3 x4 x5 s0 M = some (res, M') → AW u_Model_nextRest R_Model_nextRest 0 0 87 [(0, .ref r0), (1, .int x1), (2, .int x2)] [] M (fun r M2 => r = .inl (some (.int res)) ∧ M2 = M')) : ∀ (r0 : Nat) (x1 : Int32) (x2 : Int32) (x3 : Int32) (x4 : Int32) (x5 : Int32) (s0 : Int32) (M : am_M), a_Model_nextRest_3 rc r0 x1 x2 x3 x4 x5 s0 M = some (res, M') → AW u_Model_nextRest R_Model_nextRest 0 0 87 [(0, .ref r0), (1, .int x1), (2, .int x2)] [] M (fun r M2 => r = .inl (some (.int res)) ∧ M2 = M') := by
  intro r0 x1 x2 x3 x4 x5 s0 M h
  unfold a_Model_nextRest_3 at h
  refine aw_aload_n d_Model_nextRest_87 rfl rfl ?_
  obtain ⟨t88, e_t88, h⟩ := q_bind h
  refine aw_gtr d_Model_nextRest_88 fl_Model_20 (Or.inr ⟨_, rfl⟩) e_t88 ?_
  refine aw_sipush (v := 20700) d_Model_nextRest_91 (by decide) ?_
  refine aw_iload_n d_Model_nextRest_94 rfl rfl ?_
  refine aw_imul d_Model_nextRest_95 ?_
  refine aw_iload_n d_Model_nextRest_96 rfl rfl ?_
  refine aw_iadd d_Model_nextRest_97 ?_
  obtain ⟨t98, e_t98, h⟩ := q_bind h
  refine aw_ldi d_Model_nextRest_98 e_t98 ?_
  cases h
  exact aw_ireturn d_Model_nextRest_99 rfl (Nat.le_of_ble_eq_true rfl) (Nat.le_of_ble_eq_true rfl) ⟨rfl, rfl⟩
theorem l_Model_nextRest {res : Int32} {M' : am_M} : ∀ F : Nat, (∀ (r0 : Nat) (x1 : Int32) (x2 : Int32) (x3 : Int32) (x4 : Int32) (x5 : Int32) (s0 : Int32) (M : am_M), g_Model_nextRest F 0 r0 x1 x2 x3 x4 x5 s0 M = some (res, M') → AW u_Model_nextRest R_Model_nextRest 0 0 27 [(0, .ref r0), (1, .int x1), (2, .int x2), (3, .int x3), (4, .int x4), (5, .int x5)] [] M (fun r M2 => r = .inl (some (.int res)) ∧ M2 = M')) ∧ (∀ (r0 : Nat) (x1 : Int32) (x2 : Int32) (x3 : Int32) (x4 : Int32) (x5 : Int32) (s0 : Int32) (M : am_M), g_Model_nextRest F 1 r0 x1 x2 x3 x4 x5 s0 M = some (res, M') → AW u_Model_nextRest R_Model_nextRest 0 0 49 [(0, .ref r0), (1, .int x1), (2, .int x2), (4, .int x4), (5, .int x5)] [.int s0] M (fun r M2 => r = .inl (some (.int res)) ∧ M2 = M')) ∧ (∀ (r0 : Nat) (x1 : Int32) (x2 : Int32) (x3 : Int32) (x4 : Int32) (x5 : Int32) (s0 : Int32) (M : am_M), g_Model_nextRest F 2 r0 x1 x2 x3 x4 x5 s0 M = some (res, M') → AW u_Model_nextRest R_Model_nextRest 0 0 64 [(0, .ref r0), (1, .int x1), (2, .int x2), (3, .int x3), (5, .int x5)] [.int s0] M (fun r M2 => r = .inl (some (.int res)) ∧ M2 = M')) ∧ (∀ (r0 : Nat) (x1 : Int32) (x2 : Int32) (x3 : Int32) (x4 : Int32) (x5 : Int32) (s0 : Int32) (M : am_M), g_Model_nextRest F 3 r0 x1 x2 x3 x4 x5 s0 M = some (res, M') → AW u_Model_nextRest R_Model_nextRest 0 0 87 [(0, .ref r0), (1, .int x1), (2, .int x2)] [] M (fun r M2 => r = .inl (some (.int res)) ∧ M2 = M')) := by
  intro F
  induction F with
  | zero => exact ⟨fun _ _ _ _ _ _ _ _  h => (by cases h), fun _ _ _ _ _ _ _ _  h => (by cases h), fun _ _ _ _ _ _ _ _  h => (by cases h), fun _ _ _ _ _ _ _ _  h => (by cases h)⟩
  | succ F ih =>
    obtain ⟨ih0, ih1, ih2, ih3⟩ := ih
    exact ⟨s_Model_nextRest_0 ih0 ih1 ih2 ih3, s_Model_nextRest_1 ih0 ih1 ih2 ih3, s_Model_nextRest_2 ih0 ih1 ih2 ih3, s_Model_nextRest_3 ih0 ih1 ih2 ih3⟩
set_option maxHeartbeats 4000000 in
theorem mt_Model_nextRest {M : am_M} {a0 : Nat} {a1 : Int32} {a2 : Int32} {res : Int32} {M' : am_M} (h : f_Model_nextRest M a0 a1 a2 = some (res, M')) : AMet y_Model_nextRest u_Model_nextRest R_Model_nextRest [.ref a0, .int a1, .int a2] M (fun r M2 => r = .inl (some (.int res)) ∧ M2 = M') := by
  refine am_met (by decide +kernel) w_Model_nextRest rfl rfl (Nat.le_of_ble_eq_true rfl) ?_
  show AW u_Model_nextRest R_Model_nextRest 0 0 0 [(0, .ref a0), (1, .int a1), (2, .int a2)] [] M (fun r M2 => r = .inl (some (.int res)) ∧ M2 = M')
  have ih_0 := (l_Model_nextRest (res := res) (M' := M') 1000000000).1
  have ih_1 := (l_Model_nextRest (res := res) (M' := M') 1000000000).2.1
  have ih_2 := (l_Model_nextRest (res := res) (M' := M') 1000000000).2.2.1
  have ih_3 := (l_Model_nextRest (res := res) (M' := M') 1000000000).2.2.2
  unfold f_Model_nextRest at h
  unfold e_Model_nextRest at h
  generalize g_Model_nextRest 1000000000 = rc at h ih_0 ih_1 ih_2 ih_3
  refine aw_aload_n d_Model_nextRest_0 rfl rfl ?_
  obtain ⟨t1, e_t1, h⟩ := q_bind h
  refine aw_gtr d_Model_nextRest_1 fl_Model_23 (Or.inr ⟨_, rfl⟩) e_t1 ?_
  refine aw_iload_n d_Model_nextRest_4 rfl rfl ?_
  obtain ⟨t5, e_t5, h⟩ := q_bind h
  refine aw_ldz d_Model_nextRest_5 e_t5 ?_
  refine aw_if_ne (tgt := 87) d_Model_nextRest_6 (by decide) (fun hc => ?_) (fun hc => ?_)
  · rw [if_neg hc] at h
    exact aw_pick [0, 1, 2] rfl (ih_3 _ _ _ _ _ _ _ _ h)
  · rw [if_pos hc] at h
    refine aw_aload_n d_Model_nextRest_9 rfl rfl ?_
    obtain ⟨t10, e_t10, h⟩ := q_bind h
    refine aw_gtr d_Model_nextRest_10 fl_Model_23 (Or.inr ⟨_, rfl⟩) e_t10 ?_
    refine aw_iload_n d_Model_nextRest_13 rfl rfl ?_
    refine aw_iconst (v := 1) d_Model_nextRest_14 (by decide) ?_
    obtain ⟨M15, e_M15, h⟩ := q_bind h
    refine aw_stz d_Model_nextRest_15 e_M15 ?_
    refine aw_iconst (v := 0) d_Model_nextRest_16 (by decide) ?_
    refine aw_istore_n (ls' := [(3, .int _), (0, .ref _), (1, .int _), (2, .int _)]) d_Model_nextRest_17 rfl (Nat.le_of_ble_eq_true rfl) rfl ?_
    refine aw_ldc (v := 1000000) d_Model_nextRest_18 (List.mem_of_getElem? (i := 1272) (by decide +kernel)) ?_
    refine aw_istore (ls' := [(4, .int _), (3, .int _), (0, .ref _), (1, .int _), (2, .int _)]) d_Model_nextRest_20 (Nat.le_of_ble_eq_true rfl) rfl ?_
    refine aw_sipush (v := 20699) d_Model_nextRest_22 (by decide) ?_
    refine aw_istore (ls' := [(5, .int _), (4, .int _), (3, .int _), (0, .ref _), (1, .int _), (2, .int _)]) d_Model_nextRest_25 (Nat.le_of_ble_eq_true rfl) rfl ?_
    exact aw_pick [3, 4, 5, 2, 1, 0] rfl (ih_0 _ _ _ _ _ _ _ _ h)
def y_Model_leastOf : MethodName := ⟨"CrewOfficeModel", "leastOf", "(I)I"⟩
def u_Model_leastOf : am_U := ("CrewOfficeModel", "leastOf", prog_12_method_16_code, 1, (some .int), [])
def R_Model_leastOf : Room := { frames := 0, cells := 0, slots := 0, locals := 0 }
theorem d_Model_leastOf_0 : decode u_Model_leastOf.2.2.1 0 = .ok (.iload_n 0, 1) := by decide +kernel
theorem d_Model_leastOf_1 : decode u_Model_leastOf.2.2.1 1 = .ok (.tableswitch 43 3 7 #[35, 43, 38, 38, 40], 35) := by decide +kernel
theorem d_Model_leastOf_36 : decode u_Model_leastOf.2.2.1 36 = .ok (.bipush 120, 2) := by decide +kernel
theorem d_Model_leastOf_38 : decode u_Model_leastOf.2.2.1 38 = .ok (.ireturn, 1) := by decide +kernel
theorem d_Model_leastOf_39 : decode u_Model_leastOf.2.2.1 39 = .ok (.iconst 1, 1) := by decide +kernel
theorem d_Model_leastOf_40 : decode u_Model_leastOf.2.2.1 40 = .ok (.ireturn, 1) := by decide +kernel
theorem d_Model_leastOf_41 : decode u_Model_leastOf.2.2.1 41 = .ok (.bipush 60, 2) := by decide +kernel
theorem d_Model_leastOf_43 : decode u_Model_leastOf.2.2.1 43 = .ok (.ireturn, 1) := by decide +kernel
theorem d_Model_leastOf_44 : decode u_Model_leastOf.2.2.1 44 = .ok (.iconst 0, 1) := by decide +kernel
theorem d_Model_leastOf_45 : decode u_Model_leastOf.2.2.1 45 = .ok (.ireturn, 1) := by decide +kernel
theorem w_Model_leastOf : am_code y_Model_leastOf u_Model_leastOf ∈ am_ws := am_mem (List.mem_of_getElem? (i := 1216) (by decide +kernel)) rfl
def e_Model_leastOf (M : am_M) (a0 : Int32) : Option (Int32) := if a0 = (3 : Int32) then (some (120 : Int32)) else if a0 = (4 : Int32) then (some (0 : Int32)) else if a0 = (5 : Int32) then (some (1 : Int32)) else if a0 = (6 : Int32) then (some (1 : Int32)) else if a0 = (7 : Int32) then (some (60 : Int32)) else (some (0 : Int32))
def f_Model_leastOf (M : am_M) (a0 : Int32) : Option (Int32) := e_Model_leastOf M a0
set_option maxHeartbeats 4000000 in
theorem mt_Model_leastOf {M : am_M} {a0 : Int32} {res : Int32} (h : f_Model_leastOf M a0 = some res) : AMet y_Model_leastOf u_Model_leastOf R_Model_leastOf [.int a0] M (fun r M2 => r = .inl (some (.int res)) ∧ M2 = M) := by
  refine am_met (by decide +kernel) w_Model_leastOf rfl rfl (Nat.le_of_ble_eq_true rfl) ?_
  show AW u_Model_leastOf R_Model_leastOf 0 0 0 [(0, .int a0)] [] M (fun r M2 => r = .inl (some (.int res)) ∧ M2 = M)
  unfold f_Model_leastOf at h
  unfold e_Model_leastOf at h
  refine aw_iload_n d_Model_leastOf_0 rfl rfl ?_
  by_cases c1_3 : a0 = (3 : Int32)
  · rw [if_pos c1_3] at h
    have hx : (a0).toInt = (3 : Int) := by rw [c1_3]; rfl
    refine aw_tableIn (off := 35) (tgt := 36) d_Model_leastOf_1 (by rw [hx]; decide) (by rw [hx]; decide) (by rw [hx]; rfl) (by decide) ?_
    refine aw_bipush (v := 120) d_Model_leastOf_36 (by decide) ?_
    cases h
    exact aw_ireturn d_Model_leastOf_38 rfl (Nat.le_of_ble_eq_true rfl) (Nat.le_of_ble_eq_true rfl) ⟨rfl, rfl⟩
  rw [if_neg c1_3] at h
  by_cases c1_4 : a0 = (4 : Int32)
  · rw [if_pos c1_4] at h
    have hx : (a0).toInt = (4 : Int) := by rw [c1_4]; rfl
    refine aw_tableIn (off := 43) (tgt := 44) d_Model_leastOf_1 (by rw [hx]; decide) (by rw [hx]; decide) (by rw [hx]; rfl) (by decide) ?_
    refine aw_iconst (v := 0) d_Model_leastOf_44 (by decide) ?_
    cases h
    exact aw_ireturn d_Model_leastOf_45 rfl (Nat.le_of_ble_eq_true rfl) (Nat.le_of_ble_eq_true rfl) ⟨rfl, rfl⟩
  rw [if_neg c1_4] at h
  by_cases c1_5 : a0 = (5 : Int32)
  · rw [if_pos c1_5] at h
    have hx : (a0).toInt = (5 : Int) := by rw [c1_5]; rfl
    refine aw_tableIn (off := 38) (tgt := 39) d_Model_leastOf_1 (by rw [hx]; decide) (by rw [hx]; decide) (by rw [hx]; rfl) (by decide) ?_
    refine aw_iconst (v := 1) d_Model_leastOf_39 (by decide) ?_
    cases h
    exact aw_ireturn d_Model_leastOf_40 rfl (Nat.le_of_ble_eq_true rfl) (Nat.le_of_ble_eq_true rfl) ⟨rfl, rfl⟩
  rw [if_neg c1_5] at h
  by_cases c1_6 : a0 = (6 : Int32)
  · rw [if_pos c1_6] at h
    have hx : (a0).toInt = (6 : Int) := by rw [c1_6]; rfl
    refine aw_tableIn (off := 38) (tgt := 39) d_Model_leastOf_1 (by rw [hx]; decide) (by rw [hx]; decide) (by rw [hx]; rfl) (by decide) ?_
    refine aw_iconst (v := 1) d_Model_leastOf_39 (by decide) ?_
    cases h
    exact aw_ireturn d_Model_leastOf_40 rfl (Nat.le_of_ble_eq_true rfl) (Nat.le_of_ble_eq_true rfl) ⟨rfl, rfl⟩
  rw [if_neg c1_6] at h
  by_cases c1_7 : a0 = (7 : Int32)
  · rw [if_pos c1_7] at h
    have hx : (a0).toInt = (7 : Int) := by rw [c1_7]; rfl
    refine aw_tableIn (off := 40) (tgt := 41) d_Model_leastOf_1 (by rw [hx]; decide) (by rw [hx]; decide) (by rw [hx]; rfl) (by decide) ?_
    refine aw_bipush (v := 60) d_Model_leastOf_41 (by decide) ?_
    cases h
    exact aw_ireturn d_Model_leastOf_43 rfl (Nat.le_of_ble_eq_true rfl) (Nat.le_of_ble_eq_true rfl) ⟨rfl, rfl⟩
  rw [if_neg c1_7] at h
  refine aw_tableOut (tgt := 44) d_Model_leastOf_1 (by have z0 := lv_neT c1_3 (a := 3) rfl; have z1 := lv_neT c1_4 (a := 4) rfl; have z2 := lv_neT c1_5 (a := 5) rfl; have z3 := lv_neT c1_6 (a := 6) rfl; have z4 := lv_neT c1_7 (a := 7) rfl; omega) (by decide) ?_
  refine aw_iconst (v := 0) d_Model_leastOf_44 (by decide) ?_
  cases h
  exact aw_ireturn d_Model_leastOf_45 rfl (Nat.le_of_ble_eq_true rfl) (Nat.le_of_ble_eq_true rfl) ⟨rfl, rfl⟩
def y_Model_mostOf : MethodName := ⟨"CrewOfficeModel", "mostOf", "(I)I"⟩
def u_Model_mostOf : am_U := ("CrewOfficeModel", "mostOf", prog_12_method_17_code, 1, (some .int), [])
def R_Model_mostOf : Room := { frames := 0, cells := 0, slots := 0, locals := 0 }
theorem d_Model_mostOf_0 : decode u_Model_mostOf.2.2.1 0 = .ok (.iload_n 0, 1) := by decide +kernel
theorem d_Model_mostOf_1 : decode u_Model_mostOf.2.2.1 1 = .ok (.tableswitch 79 0 9 #[55, 55, 58, 62, 62, 66, 66, 69, 73, 77], 55) := by decide +kernel
theorem d_Model_mostOf_56 : decode u_Model_mostOf.2.2.1 56 = .ok (.bipush 120, 2) := by decide +kernel
theorem d_Model_mostOf_58 : decode u_Model_mostOf.2.2.1 58 = .ok (.ireturn, 1) := by decide +kernel
theorem d_Model_mostOf_59 : decode u_Model_mostOf.2.2.1 59 = .ok (.sipush 180, 3) := by decide +kernel
theorem d_Model_mostOf_62 : decode u_Model_mostOf.2.2.1 62 = .ok (.ireturn, 1) := by decide +kernel
theorem d_Model_mostOf_63 : decode u_Model_mostOf.2.2.1 63 = .ok (.sipush 900, 3) := by decide +kernel
theorem d_Model_mostOf_66 : decode u_Model_mostOf.2.2.1 66 = .ok (.ireturn, 1) := by decide +kernel
theorem d_Model_mostOf_67 : decode u_Model_mostOf.2.2.1 67 = .ok (.bipush 8, 2) := by decide +kernel
theorem d_Model_mostOf_69 : decode u_Model_mostOf.2.2.1 69 = .ok (.ireturn, 1) := by decide +kernel
theorem d_Model_mostOf_70 : decode u_Model_mostOf.2.2.1 70 = .ok (.sipush 20160, 3) := by decide +kernel
theorem d_Model_mostOf_73 : decode u_Model_mostOf.2.2.1 73 = .ok (.ireturn, 1) := by decide +kernel
theorem d_Model_mostOf_74 : decode u_Model_mostOf.2.2.1 74 = .ok (.sipush 10000, 3) := by decide +kernel
theorem d_Model_mostOf_77 : decode u_Model_mostOf.2.2.1 77 = .ok (.ireturn, 1) := by decide +kernel
theorem d_Model_mostOf_78 : decode u_Model_mostOf.2.2.1 78 = .ok (.iconst 1, 1) := by decide +kernel
theorem d_Model_mostOf_79 : decode u_Model_mostOf.2.2.1 79 = .ok (.ireturn, 1) := by decide +kernel
theorem d_Model_mostOf_80 : decode u_Model_mostOf.2.2.1 80 = .ok (.sipush 20000, 3) := by decide +kernel
theorem d_Model_mostOf_83 : decode u_Model_mostOf.2.2.1 83 = .ok (.ireturn, 1) := by decide +kernel
theorem w_Model_mostOf : am_code y_Model_mostOf u_Model_mostOf ∈ am_ws := am_mem (List.mem_of_getElem? (i := 1219) (by decide +kernel)) rfl
def e_Model_mostOf (M : am_M) (a0 : Int32) : Option (Int32) := if a0 = (0 : Int32) then (some (120 : Int32)) else if a0 = (1 : Int32) then (some (120 : Int32)) else if a0 = (2 : Int32) then (some (180 : Int32)) else if a0 = (3 : Int32) then (some (900 : Int32)) else if a0 = (4 : Int32) then (some (900 : Int32)) else if a0 = (5 : Int32) then (some (8 : Int32)) else if a0 = (6 : Int32) then (some (8 : Int32)) else if a0 = (7 : Int32) then (some (20160 : Int32)) else if a0 = (8 : Int32) then (some (10000 : Int32)) else if a0 = (9 : Int32) then (some (1 : Int32)) else (some (20000 : Int32))
def f_Model_mostOf (M : am_M) (a0 : Int32) : Option (Int32) := e_Model_mostOf M a0
set_option maxHeartbeats 4000000 in
theorem mt_Model_mostOf {M : am_M} {a0 : Int32} {res : Int32} (h : f_Model_mostOf M a0 = some res) : AMet y_Model_mostOf u_Model_mostOf R_Model_mostOf [.int a0] M (fun r M2 => r = .inl (some (.int res)) ∧ M2 = M) := by
  refine am_met (by decide +kernel) w_Model_mostOf rfl rfl (Nat.le_of_ble_eq_true rfl) ?_
  show AW u_Model_mostOf R_Model_mostOf 0 0 0 [(0, .int a0)] [] M (fun r M2 => r = .inl (some (.int res)) ∧ M2 = M)
  unfold f_Model_mostOf at h
  unfold e_Model_mostOf at h
  refine aw_iload_n d_Model_mostOf_0 rfl rfl ?_
  by_cases c1_0 : a0 = (0 : Int32)
  · rw [if_pos c1_0] at h
    have hx : (a0).toInt = (0 : Int) := by rw [c1_0]; rfl
    refine aw_tableIn (off := 55) (tgt := 56) d_Model_mostOf_1 (by rw [hx]; decide) (by rw [hx]; decide) (by rw [hx]; rfl) (by decide) ?_
    refine aw_bipush (v := 120) d_Model_mostOf_56 (by decide) ?_
    cases h
    exact aw_ireturn d_Model_mostOf_58 rfl (Nat.le_of_ble_eq_true rfl) (Nat.le_of_ble_eq_true rfl) ⟨rfl, rfl⟩
  rw [if_neg c1_0] at h
  by_cases c1_1 : a0 = (1 : Int32)
  · rw [if_pos c1_1] at h
    have hx : (a0).toInt = (1 : Int) := by rw [c1_1]; rfl
    refine aw_tableIn (off := 55) (tgt := 56) d_Model_mostOf_1 (by rw [hx]; decide) (by rw [hx]; decide) (by rw [hx]; rfl) (by decide) ?_
    refine aw_bipush (v := 120) d_Model_mostOf_56 (by decide) ?_
    cases h
    exact aw_ireturn d_Model_mostOf_58 rfl (Nat.le_of_ble_eq_true rfl) (Nat.le_of_ble_eq_true rfl) ⟨rfl, rfl⟩
  rw [if_neg c1_1] at h
  by_cases c1_2 : a0 = (2 : Int32)
  · rw [if_pos c1_2] at h
    have hx : (a0).toInt = (2 : Int) := by rw [c1_2]; rfl
    refine aw_tableIn (off := 58) (tgt := 59) d_Model_mostOf_1 (by rw [hx]; decide) (by rw [hx]; decide) (by rw [hx]; rfl) (by decide) ?_
    refine aw_sipush (v := 180) d_Model_mostOf_59 (by decide) ?_
    cases h
    exact aw_ireturn d_Model_mostOf_62 rfl (Nat.le_of_ble_eq_true rfl) (Nat.le_of_ble_eq_true rfl) ⟨rfl, rfl⟩
  rw [if_neg c1_2] at h
  by_cases c1_3 : a0 = (3 : Int32)
  · rw [if_pos c1_3] at h
    have hx : (a0).toInt = (3 : Int) := by rw [c1_3]; rfl
    refine aw_tableIn (off := 62) (tgt := 63) d_Model_mostOf_1 (by rw [hx]; decide) (by rw [hx]; decide) (by rw [hx]; rfl) (by decide) ?_
    refine aw_sipush (v := 900) d_Model_mostOf_63 (by decide) ?_
    cases h
    exact aw_ireturn d_Model_mostOf_66 rfl (Nat.le_of_ble_eq_true rfl) (Nat.le_of_ble_eq_true rfl) ⟨rfl, rfl⟩
  rw [if_neg c1_3] at h
  by_cases c1_4 : a0 = (4 : Int32)
  · rw [if_pos c1_4] at h
    have hx : (a0).toInt = (4 : Int) := by rw [c1_4]; rfl
    refine aw_tableIn (off := 62) (tgt := 63) d_Model_mostOf_1 (by rw [hx]; decide) (by rw [hx]; decide) (by rw [hx]; rfl) (by decide) ?_
    refine aw_sipush (v := 900) d_Model_mostOf_63 (by decide) ?_
    cases h
    exact aw_ireturn d_Model_mostOf_66 rfl (Nat.le_of_ble_eq_true rfl) (Nat.le_of_ble_eq_true rfl) ⟨rfl, rfl⟩
  rw [if_neg c1_4] at h
  by_cases c1_5 : a0 = (5 : Int32)
  · rw [if_pos c1_5] at h
    have hx : (a0).toInt = (5 : Int) := by rw [c1_5]; rfl
    refine aw_tableIn (off := 66) (tgt := 67) d_Model_mostOf_1 (by rw [hx]; decide) (by rw [hx]; decide) (by rw [hx]; rfl) (by decide) ?_
    refine aw_bipush (v := 8) d_Model_mostOf_67 (by decide) ?_
    cases h
    exact aw_ireturn d_Model_mostOf_69 rfl (Nat.le_of_ble_eq_true rfl) (Nat.le_of_ble_eq_true rfl) ⟨rfl, rfl⟩
  rw [if_neg c1_5] at h
  by_cases c1_6 : a0 = (6 : Int32)
  · rw [if_pos c1_6] at h
    have hx : (a0).toInt = (6 : Int) := by rw [c1_6]; rfl
    refine aw_tableIn (off := 66) (tgt := 67) d_Model_mostOf_1 (by rw [hx]; decide) (by rw [hx]; decide) (by rw [hx]; rfl) (by decide) ?_
    refine aw_bipush (v := 8) d_Model_mostOf_67 (by decide) ?_
    cases h
    exact aw_ireturn d_Model_mostOf_69 rfl (Nat.le_of_ble_eq_true rfl) (Nat.le_of_ble_eq_true rfl) ⟨rfl, rfl⟩
  rw [if_neg c1_6] at h
  by_cases c1_7 : a0 = (7 : Int32)
  · rw [if_pos c1_7] at h
    have hx : (a0).toInt = (7 : Int) := by rw [c1_7]; rfl
    refine aw_tableIn (off := 69) (tgt := 70) d_Model_mostOf_1 (by rw [hx]; decide) (by rw [hx]; decide) (by rw [hx]; rfl) (by decide) ?_
    refine aw_sipush (v := 20160) d_Model_mostOf_70 (by decide) ?_
    cases h
    exact aw_ireturn d_Model_mostOf_73 rfl (Nat.le_of_ble_eq_true rfl) (Nat.le_of_ble_eq_true rfl) ⟨rfl, rfl⟩
  rw [if_neg c1_7] at h
  by_cases c1_8 : a0 = (8 : Int32)
  · rw [if_pos c1_8] at h
    have hx : (a0).toInt = (8 : Int) := by rw [c1_8]; rfl
    refine aw_tableIn (off := 73) (tgt := 74) d_Model_mostOf_1 (by rw [hx]; decide) (by rw [hx]; decide) (by rw [hx]; rfl) (by decide) ?_
    refine aw_sipush (v := 10000) d_Model_mostOf_74 (by decide) ?_
    cases h
    exact aw_ireturn d_Model_mostOf_77 rfl (Nat.le_of_ble_eq_true rfl) (Nat.le_of_ble_eq_true rfl) ⟨rfl, rfl⟩
  rw [if_neg c1_8] at h
  by_cases c1_9 : a0 = (9 : Int32)
  · rw [if_pos c1_9] at h
    have hx : (a0).toInt = (9 : Int) := by rw [c1_9]; rfl
    refine aw_tableIn (off := 77) (tgt := 78) d_Model_mostOf_1 (by rw [hx]; decide) (by rw [hx]; decide) (by rw [hx]; rfl) (by decide) ?_
    refine aw_iconst (v := 1) d_Model_mostOf_78 (by decide) ?_
    cases h
    exact aw_ireturn d_Model_mostOf_79 rfl (Nat.le_of_ble_eq_true rfl) (Nat.le_of_ble_eq_true rfl) ⟨rfl, rfl⟩
  rw [if_neg c1_9] at h
  refine aw_tableOut (tgt := 80) d_Model_mostOf_1 (by have z0 := lv_neT c1_0 (a := 0) rfl; have z1 := lv_neT c1_1 (a := 1) rfl; have z2 := lv_neT c1_2 (a := 2) rfl; have z3 := lv_neT c1_3 (a := 3) rfl; have z4 := lv_neT c1_4 (a := 4) rfl; have z5 := lv_neT c1_5 (a := 5) rfl; have z6 := lv_neT c1_6 (a := 6) rfl; have z7 := lv_neT c1_7 (a := 7) rfl; have z8 := lv_neT c1_8 (a := 8) rfl; have z9 := lv_neT c1_9 (a := 9) rfl; omega) (by decide) ?_
  refine aw_sipush (v := 20000) d_Model_mostOf_80 (by decide) ?_
  cases h
  exact aw_ireturn d_Model_mostOf_83 rfl (Nat.le_of_ble_eq_true rfl) (Nat.le_of_ble_eq_true rfl) ⟨rfl, rfl⟩
def y_Model_parts : MethodName := ⟨"CrewOfficeModel", "parts", "()V"⟩
def u_Model_parts : am_U := ("CrewOfficeModel", "parts", prog_12_method_22_code, 3, none, [])
def R_Model_parts : Room := { frames := 0, cells := 0, slots := 0, locals := 0 }
theorem d_Model_parts_0 : decode u_Model_parts.2.2.1 0 = .ok (.aload_n 0, 1) := by decide +kernel
theorem d_Model_parts_1 : decode u_Model_parts.2.2.1 1 = .ok (.iconst 0, 1) := by decide +kernel
theorem d_Model_parts_2 : decode u_Model_parts.2.2.1 2 = .ok (.putfield 200, 3) := by decide +kernel
theorem d_Model_parts_5 : decode u_Model_parts.2.2.1 5 = .ok (.iconst 0, 1) := by decide +kernel
theorem d_Model_parts_6 : decode u_Model_parts.2.2.1 6 = .ok (.istore_n 1, 1) := by decide +kernel
theorem d_Model_parts_7 : decode u_Model_parts.2.2.1 7 = .ok (.iload_n 1, 1) := by decide +kernel
theorem d_Model_parts_8 : decode u_Model_parts.2.2.1 8 = .ok (.aload_n 0, 1) := by decide +kernel
theorem d_Model_parts_9 : decode u_Model_parts.2.2.1 9 = .ok (.getfield 203, 3) := by decide +kernel
theorem d_Model_parts_12 : decode u_Model_parts.2.2.1 12 = .ok (.if_icmp .ge 127, 3) := by decide +kernel
theorem d_Model_parts_15 : decode u_Model_parts.2.2.1 15 = .ok (.aload_n 0, 1) := by decide +kernel
theorem d_Model_parts_16 : decode u_Model_parts.2.2.1 16 = .ok (.getfield 87, 3) := by decide +kernel
theorem d_Model_parts_19 : decode u_Model_parts.2.2.1 19 = .ok (.iload_n 1, 1) := by decide +kernel
theorem d_Model_parts_20 : decode u_Model_parts.2.2.1 20 = .ok (.iaload, 1) := by decide +kernel
theorem d_Model_parts_21 : decode u_Model_parts.2.2.1 21 = .ok (.istore_n 2, 1) := by decide +kernel
theorem d_Model_parts_22 : decode u_Model_parts.2.2.1 22 = .ok (.iload_n 1, 1) := by decide +kernel
theorem d_Model_parts_23 : decode u_Model_parts.2.2.1 23 = .ok (.ifCond .eq 32, 3) := by decide +kernel
theorem d_Model_parts_26 : decode u_Model_parts.2.2.1 26 = .ok (.aload_n 0, 1) := by decide +kernel
theorem d_Model_parts_27 : decode u_Model_parts.2.2.1 27 = .ok (.getfield 36, 3) := by decide +kernel
theorem d_Model_parts_30 : decode u_Model_parts.2.2.1 30 = .ok (.iload_n 2, 1) := by decide +kernel
theorem d_Model_parts_31 : decode u_Model_parts.2.2.1 31 = .ok (.iaload, 1) := by decide +kernel
theorem d_Model_parts_32 : decode u_Model_parts.2.2.1 32 = .ok (.aload_n 0, 1) := by decide +kernel
theorem d_Model_parts_33 : decode u_Model_parts.2.2.1 33 = .ok (.getfield 39, 3) := by decide +kernel
theorem d_Model_parts_36 : decode u_Model_parts.2.2.1 36 = .ok (.aload_n 0, 1) := by decide +kernel
theorem d_Model_parts_37 : decode u_Model_parts.2.2.1 37 = .ok (.getfield 87, 3) := by decide +kernel
theorem d_Model_parts_40 : decode u_Model_parts.2.2.1 40 = .ok (.iload_n 1, 1) := by decide +kernel
theorem d_Model_parts_41 : decode u_Model_parts.2.2.1 41 = .ok (.iconst 1, 1) := by decide +kernel
theorem d_Model_parts_42 : decode u_Model_parts.2.2.1 42 = .ok (.isub, 1) := by decide +kernel
theorem d_Model_parts_43 : decode u_Model_parts.2.2.1 43 = .ok (.iaload, 1) := by decide +kernel
theorem d_Model_parts_44 : decode u_Model_parts.2.2.1 44 = .ok (.iaload, 1) := by decide +kernel
theorem d_Model_parts_45 : decode u_Model_parts.2.2.1 45 = .ok (.aload_n 0, 1) := by decide +kernel
theorem d_Model_parts_46 : decode u_Model_parts.2.2.1 46 = .ok (.getfield 78, 3) := by decide +kernel
theorem d_Model_parts_49 : decode u_Model_parts.2.2.1 49 = .ok (.iconst 3, 1) := by decide +kernel
theorem d_Model_parts_50 : decode u_Model_parts.2.2.1 50 = .ok (.iaload, 1) := by decide +kernel
theorem d_Model_parts_51 : decode u_Model_parts.2.2.1 51 = .ok (.iadd, 1) := by decide +kernel
theorem d_Model_parts_52 : decode u_Model_parts.2.2.1 52 = .ok (.if_icmp .lt 45, 3) := by decide +kernel
theorem d_Model_parts_55 : decode u_Model_parts.2.2.1 55 = .ok (.aload_n 0, 1) := by decide +kernel
theorem d_Model_parts_56 : decode u_Model_parts.2.2.1 56 = .ok (.getfield 90, 3) := by decide +kernel
theorem d_Model_parts_59 : decode u_Model_parts.2.2.1 59 = .ok (.aload_n 0, 1) := by decide +kernel
theorem d_Model_parts_60 : decode u_Model_parts.2.2.1 60 = .ok (.getfield 200, 3) := by decide +kernel
theorem d_Model_parts_63 : decode u_Model_parts.2.2.1 63 = .ok (.iload_n 1, 1) := by decide +kernel
theorem d_Model_parts_64 : decode u_Model_parts.2.2.1 64 = .ok (.iastore, 1) := by decide +kernel
theorem d_Model_parts_65 : decode u_Model_parts.2.2.1 65 = .ok (.aload_n 0, 1) := by decide +kernel
theorem d_Model_parts_66 : decode u_Model_parts.2.2.1 66 = .ok (.getfield 96, 3) := by decide +kernel
theorem d_Model_parts_69 : decode u_Model_parts.2.2.1 69 = .ok (.aload_n 0, 1) := by decide +kernel
theorem d_Model_parts_70 : decode u_Model_parts.2.2.1 70 = .ok (.getfield 200, 3) := by decide +kernel
theorem d_Model_parts_73 : decode u_Model_parts.2.2.1 73 = .ok (.aload_n 0, 1) := by decide +kernel
theorem d_Model_parts_74 : decode u_Model_parts.2.2.1 74 = .ok (.getfield 36, 3) := by decide +kernel
theorem d_Model_parts_77 : decode u_Model_parts.2.2.1 77 = .ok (.iload_n 2, 1) := by decide +kernel
theorem d_Model_parts_78 : decode u_Model_parts.2.2.1 78 = .ok (.iaload, 1) := by decide +kernel
theorem d_Model_parts_79 : decode u_Model_parts.2.2.1 79 = .ok (.aload_n 0, 1) := by decide +kernel
theorem d_Model_parts_80 : decode u_Model_parts.2.2.1 80 = .ok (.getfield 78, 3) := by decide +kernel
theorem d_Model_parts_83 : decode u_Model_parts.2.2.1 83 = .ok (.iconst 0, 1) := by decide +kernel
theorem d_Model_parts_84 : decode u_Model_parts.2.2.1 84 = .ok (.iaload, 1) := by decide +kernel
theorem d_Model_parts_85 : decode u_Model_parts.2.2.1 85 = .ok (.isub, 1) := by decide +kernel
theorem d_Model_parts_86 : decode u_Model_parts.2.2.1 86 = .ok (.iastore, 1) := by decide +kernel
theorem d_Model_parts_87 : decode u_Model_parts.2.2.1 87 = .ok (.aload_n 0, 1) := by decide +kernel
theorem d_Model_parts_88 : decode u_Model_parts.2.2.1 88 = .ok (.dup, 1) := by decide +kernel
theorem d_Model_parts_89 : decode u_Model_parts.2.2.1 89 = .ok (.getfield 200, 3) := by decide +kernel
theorem d_Model_parts_92 : decode u_Model_parts.2.2.1 92 = .ok (.iconst 1, 1) := by decide +kernel
theorem d_Model_parts_93 : decode u_Model_parts.2.2.1 93 = .ok (.iadd, 1) := by decide +kernel
theorem d_Model_parts_94 : decode u_Model_parts.2.2.1 94 = .ok (.putfield 200, 3) := by decide +kernel
theorem d_Model_parts_97 : decode u_Model_parts.2.2.1 97 = .ok (.aload_n 0, 1) := by decide +kernel
theorem d_Model_parts_98 : decode u_Model_parts.2.2.1 98 = .ok (.getfield 93, 3) := by decide +kernel
theorem d_Model_parts_101 : decode u_Model_parts.2.2.1 101 = .ok (.aload_n 0, 1) := by decide +kernel
theorem d_Model_parts_102 : decode u_Model_parts.2.2.1 102 = .ok (.getfield 200, 3) := by decide +kernel
theorem d_Model_parts_105 : decode u_Model_parts.2.2.1 105 = .ok (.iconst 1, 1) := by decide +kernel
theorem d_Model_parts_106 : decode u_Model_parts.2.2.1 106 = .ok (.isub, 1) := by decide +kernel
theorem d_Model_parts_107 : decode u_Model_parts.2.2.1 107 = .ok (.iload_n 1, 1) := by decide +kernel
theorem d_Model_parts_108 : decode u_Model_parts.2.2.1 108 = .ok (.iastore, 1) := by decide +kernel
theorem d_Model_parts_109 : decode u_Model_parts.2.2.1 109 = .ok (.aload_n 0, 1) := by decide +kernel
theorem d_Model_parts_110 : decode u_Model_parts.2.2.1 110 = .ok (.getfield 99, 3) := by decide +kernel
theorem d_Model_parts_113 : decode u_Model_parts.2.2.1 113 = .ok (.aload_n 0, 1) := by decide +kernel
theorem d_Model_parts_114 : decode u_Model_parts.2.2.1 114 = .ok (.getfield 200, 3) := by decide +kernel
theorem d_Model_parts_117 : decode u_Model_parts.2.2.1 117 = .ok (.iconst 1, 1) := by decide +kernel
theorem d_Model_parts_118 : decode u_Model_parts.2.2.1 118 = .ok (.isub, 1) := by decide +kernel
theorem d_Model_parts_119 : decode u_Model_parts.2.2.1 119 = .ok (.aload_n 0, 1) := by decide +kernel
theorem d_Model_parts_120 : decode u_Model_parts.2.2.1 120 = .ok (.getfield 39, 3) := by decide +kernel
theorem d_Model_parts_123 : decode u_Model_parts.2.2.1 123 = .ok (.iload_n 2, 1) := by decide +kernel
theorem d_Model_parts_124 : decode u_Model_parts.2.2.1 124 = .ok (.iaload, 1) := by decide +kernel
theorem d_Model_parts_125 : decode u_Model_parts.2.2.1 125 = .ok (.aload_n 0, 1) := by decide +kernel
theorem d_Model_parts_126 : decode u_Model_parts.2.2.1 126 = .ok (.getfield 78, 3) := by decide +kernel
theorem d_Model_parts_129 : decode u_Model_parts.2.2.1 129 = .ok (.iconst 1, 1) := by decide +kernel
theorem d_Model_parts_130 : decode u_Model_parts.2.2.1 130 = .ok (.iaload, 1) := by decide +kernel
theorem d_Model_parts_131 : decode u_Model_parts.2.2.1 131 = .ok (.iadd, 1) := by decide +kernel
theorem d_Model_parts_132 : decode u_Model_parts.2.2.1 132 = .ok (.iastore, 1) := by decide +kernel
theorem d_Model_parts_133 : decode u_Model_parts.2.2.1 133 = .ok (.iinc 1 1, 3) := by decide +kernel
theorem d_Model_parts_136 : decode u_Model_parts.2.2.1 136 = .ok (.goto (-129), 3) := by decide +kernel
theorem d_Model_parts_139 : decode u_Model_parts.2.2.1 139 = .ok (.return_, 1) := by decide +kernel
theorem w_Model_parts : am_code y_Model_parts u_Model_parts ∈ am_ws := am_mem (List.mem_of_getElem? (i := 1255) (by decide +kernel)) rfl
def a_Model_parts_0 (rc : Nat → Nat → Int32 → Int32 → am_M → Option (Unit × am_M)) (r0 : Nat) (x1 : Int32) (x2 : Int32) (M : am_M) : Option (Unit × am_M) := (q_gti M r0 10 28).bind (fun t9 => if t9 ≤ x1 then (some ((), M)) else ((q_gtr M r0 10 27).bind (fun t16 => (q_ldi M t16 x1).bind (fun t20 => if x1 = 0 then (rc 1 r0 x1 t20 M) else ((q_gtr M r0 10 9).bind (fun t27 => (q_ldi M t27 t20).bind (fun t31 => (q_gtr M r0 10 10).bind (fun t33 => (q_gtr M r0 10 27).bind (fun t37 => (q_ldi M t37 (x1 - (1 : Int32))).bind (fun t43 => (q_ldi M t33 t43).bind (fun t44 => (q_gtr M r0 10 23).bind (fun t46 => (q_ldi M t46 (3 : Int32)).bind (fun t50 => if t31 < (t44 + t50) then (rc 2 r0 x1 t20 M) else (rc 1 r0 x1 t20 M))))))))))))))
def a_Model_parts_1 (rc : Nat → Nat → Int32 → Int32 → am_M → Option (Unit × am_M)) (r0 : Nat) (x1 : Int32) (x2 : Int32) (M : am_M) : Option (Unit × am_M) := (q_gtr M r0 10 30).bind (fun t56 => (q_gti M r0 10 29).bind (fun t60 => (q_sti M t56 t60 x1).bind (fun M64 => (q_gtr M64 r0 10 32).bind (fun t66 => (q_gti M64 r0 10 29).bind (fun t70 => (q_gtr M64 r0 10 9).bind (fun t74 => (q_ldi M64 t74 x2).bind (fun t78 => (q_gtr M64 r0 10 23).bind (fun t80 => (q_ldi M64 t80 (0 : Int32)).bind (fun t84 => (q_sti M64 t66 t70 (t78 - t84)).bind (fun M86 => (q_gti M86 r0 10 29).bind (fun t89 => (q_pti M86 r0 10 29 (t89 + (1 : Int32))).bind (fun M94 => rc 2 r0 x1 x2 M94))))))))))))
def a_Model_parts_2 (rc : Nat → Nat → Int32 → Int32 → am_M → Option (Unit × am_M)) (r0 : Nat) (x1 : Int32) (x2 : Int32) (M : am_M) : Option (Unit × am_M) := (q_gtr M r0 10 31).bind (fun t98 => (q_gti M r0 10 29).bind (fun t102 => (q_sti M t98 (t102 - (1 : Int32)) x1).bind (fun M108 => (q_gtr M108 r0 10 33).bind (fun t110 => (q_gti M108 r0 10 29).bind (fun t114 => (q_gtr M108 r0 10 10).bind (fun t120 => (q_ldi M108 t120 x2).bind (fun t124 => (q_gtr M108 r0 10 23).bind (fun t126 => (q_ldi M108 t126 (1 : Int32)).bind (fun t130 => (q_sti M108 t110 (t114 - (1 : Int32)) (t124 + t130)).bind (fun M132 => rc 0 r0 (x1 + (1 : Int32)) 0 M132))))))))))
def g_Model_parts : Nat → Nat → Nat → Int32 → Int32 → am_M → Option (Unit × am_M)
  | 0, _, _, _, _, _ => none
  | F + 1, 0, r0, x1, x2, M => a_Model_parts_0 (g_Model_parts F) r0 x1 x2 M
  | F + 1, 1, r0, x1, x2, M => a_Model_parts_1 (g_Model_parts F) r0 x1 x2 M
  | F + 1, 2, r0, x1, x2, M => a_Model_parts_2 (g_Model_parts F) r0 x1 x2 M
  | _ + 1, _ + 3, _, _, _, _ => none
def e_Model_parts (rc : Nat → Nat → Int32 → Int32 → am_M → Option (Unit × am_M)) (M : am_M) (a0 : Nat) : Option (Unit × am_M) := (q_pti M a0 10 29 (0 : Int32)).bind (fun M2 => rc 0 a0 (0 : Int32) 0 M2)
def f_Model_parts (M : am_M) (a0 : Nat) : Option (Unit × am_M) := e_Model_parts (g_Model_parts 1000000000) M a0
theorem fl_Model_36 : am_fl "CrewOfficeModel" 36 10 9 := ⟨by decide, by decide, List.mem_of_getElem? (i := 1015) (by decide +kernel)⟩
theorem fl_Model_39 : am_fl "CrewOfficeModel" 39 10 10 := ⟨by decide, by decide, List.mem_of_getElem? (i := 1016) (by decide +kernel)⟩
theorem fl_Model_78 : am_fl "CrewOfficeModel" 78 10 23 := ⟨by decide, by decide, List.mem_of_getElem? (i := 1029) (by decide +kernel)⟩
theorem fl_Model_87 : am_fl "CrewOfficeModel" 87 10 27 := ⟨by decide, by decide, List.mem_of_getElem? (i := 1033) (by decide +kernel)⟩
theorem fl_Model_90 : am_fl "CrewOfficeModel" 90 10 30 := ⟨by decide, by decide, List.mem_of_getElem? (i := 1036) (by decide +kernel)⟩
theorem fl_Model_93 : am_fl "CrewOfficeModel" 93 10 31 := ⟨by decide, by decide, List.mem_of_getElem? (i := 1037) (by decide +kernel)⟩
theorem fl_Model_96 : am_fl "CrewOfficeModel" 96 10 32 := ⟨by decide, by decide, List.mem_of_getElem? (i := 1038) (by decide +kernel)⟩
theorem fl_Model_99 : am_fl "CrewOfficeModel" 99 10 33 := ⟨by decide, by decide, List.mem_of_getElem? (i := 1039) (by decide +kernel)⟩
theorem fl_Model_200 : am_fl "CrewOfficeModel" 200 10 29 := ⟨by decide, by decide, List.mem_of_getElem? (i := 1035) (by decide +kernel)⟩
theorem fl_Model_203 : am_fl "CrewOfficeModel" 203 10 28 := ⟨by decide, by decide, List.mem_of_getElem? (i := 1034) (by decide +kernel)⟩
set_option maxHeartbeats 4000000 in
theorem s_Model_parts_0 {rc : Nat → Nat → Int32 → Int32 → am_M → Option (Unit × am_M)} {res : Unit} {M' : am_M} (ih_0 : ∀ (r0 : Nat) (x1 : Int32) (x2 : Int32) (M : am_M), rc 0 r0 x1 x2 M = some (res, M') → AW u_Model_parts R_Model_parts 0 0 7 [(0, .ref r0), (1, .int x1)] [] M (fun r M2 => r = .inl none ∧ M2 = M')) (ih_1 : ∀ (r0 : Nat) (x1 : Int32) (x2 : Int32) (M : am_M), rc 1 r0 x1 x2 M = some (res, M') → AW u_Model_parts R_Model_parts 0 0 55 [(0, .ref r0), (1, .int x1), (2, .int x2)] [] M (fun r M2 => r = .inl none ∧ M2 = M')) (ih_2 : ∀ (r0 : Nat) (x1 : Int32) (x2 : Int32) (M : am_M), rc 2 r0 x1 x2 M = some (res, M') → AW u_Model_parts R_Model_parts 0 0 97 [(0, .ref r0), (1, .int x1), (2, .int x2)] [] M (fun r M2 => r = .inl none ∧ M2 = M')) : ∀ (r0 : Nat) (x1 : Int32) (x2 : Int32) (M : am_M), a_Model_parts_0 rc r0 x1 x2 M = some (res, M') → AW u_Model_parts R_Model_parts 0 0 7 [(0, .ref r0), (1, .int x1)] [] M (fun r M2 => r = .inl none ∧ M2 = M') := by
  intro r0 x1 x2 M h
  unfold a_Model_parts_0 at h
  refine aw_iload_n d_Model_parts_7 rfl rfl ?_
  refine aw_aload_n d_Model_parts_8 rfl rfl ?_
  obtain ⟨t9, e_t9, h⟩ := q_bind h
  refine aw_gti d_Model_parts_9 fl_Model_203 (Or.inl rfl) e_t9 ?_
  refine aw_icmp_ge (tgt := 139) d_Model_parts_12 (by decide) (fun hc => ?_) (fun hc => ?_)
  · rw [if_pos hc] at h
    cases h
    exact aw_vreturn d_Model_parts_139 rfl (Nat.le_of_ble_eq_true rfl) (Nat.le_of_ble_eq_true rfl) ⟨rfl, rfl⟩
  · rw [if_neg hc] at h
    refine aw_aload_n d_Model_parts_15 rfl rfl ?_
    obtain ⟨t16, e_t16, h⟩ := q_bind h
    refine aw_gtr d_Model_parts_16 fl_Model_87 (Or.inr ⟨_, rfl⟩) e_t16 ?_
    refine aw_iload_n d_Model_parts_19 rfl rfl ?_
    obtain ⟨t20, e_t20, h⟩ := q_bind h
    refine aw_ldi d_Model_parts_20 e_t20 ?_
    refine aw_istore_n (ls' := [(2, .int _), (0, .ref _), (1, .int _)]) d_Model_parts_21 rfl (Nat.le_of_ble_eq_true rfl) rfl ?_
    refine aw_iload_n d_Model_parts_22 rfl rfl ?_
    refine aw_if_eq (tgt := 55) d_Model_parts_23 (by decide) (fun hc => ?_) (fun hc => ?_)
    · rw [if_pos hc] at h
      exact aw_pick [1, 2, 0] rfl (ih_1 _ _ _ _ h)
    · rw [if_neg hc] at h
      refine aw_aload_n d_Model_parts_26 rfl rfl ?_
      obtain ⟨t27, e_t27, h⟩ := q_bind h
      refine aw_gtr d_Model_parts_27 fl_Model_36 (Or.inr ⟨_, rfl⟩) e_t27 ?_
      refine aw_iload_n d_Model_parts_30 rfl rfl ?_
      obtain ⟨t31, e_t31, h⟩ := q_bind h
      refine aw_ldi d_Model_parts_31 e_t31 ?_
      refine aw_aload_n d_Model_parts_32 rfl rfl ?_
      obtain ⟨t33, e_t33, h⟩ := q_bind h
      refine aw_gtr d_Model_parts_33 fl_Model_39 (Or.inr ⟨_, rfl⟩) e_t33 ?_
      refine aw_aload_n d_Model_parts_36 rfl rfl ?_
      obtain ⟨t37, e_t37, h⟩ := q_bind h
      refine aw_gtr d_Model_parts_37 fl_Model_87 (Or.inr ⟨_, rfl⟩) e_t37 ?_
      refine aw_iload_n d_Model_parts_40 rfl rfl ?_
      refine aw_iconst (v := 1) d_Model_parts_41 (by decide) ?_
      refine aw_isub d_Model_parts_42 ?_
      obtain ⟨t43, e_t43, h⟩ := q_bind h
      refine aw_ldi d_Model_parts_43 e_t43 ?_
      obtain ⟨t44, e_t44, h⟩ := q_bind h
      refine aw_ldi d_Model_parts_44 e_t44 ?_
      refine aw_aload_n d_Model_parts_45 rfl rfl ?_
      obtain ⟨t46, e_t46, h⟩ := q_bind h
      refine aw_gtr d_Model_parts_46 fl_Model_78 (Or.inr ⟨_, rfl⟩) e_t46 ?_
      refine aw_iconst (v := 3) d_Model_parts_49 (by decide) ?_
      obtain ⟨t50, e_t50, h⟩ := q_bind h
      refine aw_ldi d_Model_parts_50 e_t50 ?_
      refine aw_iadd d_Model_parts_51 ?_
      refine aw_icmp_lt (tgt := 97) d_Model_parts_52 (by decide) (fun hc => ?_) (fun hc => ?_)
      · rw [if_pos hc] at h
        exact aw_pick [1, 2, 0] rfl (ih_2 _ _ _ _ h)
      · rw [if_neg hc] at h
        exact aw_pick [1, 2, 0] rfl (ih_1 _ _ _ _ h)
set_option maxHeartbeats 4000000 in
theorem s_Model_parts_1 {rc : Nat → Nat → Int32 → Int32 → am_M → Option (Unit × am_M)} {res : Unit} {M' : am_M} (ih_0 : ∀ (r0 : Nat) (x1 : Int32) (x2 : Int32) (M : am_M), rc 0 r0 x1 x2 M = some (res, M') → AW u_Model_parts R_Model_parts 0 0 7 [(0, .ref r0), (1, .int x1)] [] M (fun r M2 => r = .inl none ∧ M2 = M')) (ih_1 : ∀ (r0 : Nat) (x1 : Int32) (x2 : Int32) (M : am_M), rc 1 r0 x1 x2 M = some (res, M') → AW u_Model_parts R_Model_parts 0 0 55 [(0, .ref r0), (1, .int x1), (2, .int x2)] [] M (fun r M2 => r = .inl none ∧ M2 = M')) (ih_2 : ∀ (r0 : Nat) (x1 : Int32) (x2 : Int32) (M : am_M), rc 2 r0 x1 x2 M = some (res, M') → AW u_Model_parts R_Model_parts 0 0 97 [(0, .ref r0), (1, .int x1), (2, .int x2)] [] M (fun r M2 => r = .inl none ∧ M2 = M')) : ∀ (r0 : Nat) (x1 : Int32) (x2 : Int32) (M : am_M), a_Model_parts_1 rc r0 x1 x2 M = some (res, M') → AW u_Model_parts R_Model_parts 0 0 55 [(0, .ref r0), (1, .int x1), (2, .int x2)] [] M (fun r M2 => r = .inl none ∧ M2 = M') := by
  intro r0 x1 x2 M h
  unfold a_Model_parts_1 at h
  refine aw_aload_n d_Model_parts_55 rfl rfl ?_
  obtain ⟨t56, e_t56, h⟩ := q_bind h
  refine aw_gtr d_Model_parts_56 fl_Model_90 (Or.inr ⟨_, rfl⟩) e_t56 ?_
  refine aw_aload_n d_Model_parts_59 rfl rfl ?_
  obtain ⟨t60, e_t60, h⟩ := q_bind h
  refine aw_gti d_Model_parts_60 fl_Model_200 (Or.inl rfl) e_t60 ?_
  refine aw_iload_n d_Model_parts_63 rfl rfl ?_
  obtain ⟨M64, e_M64, h⟩ := q_bind h
  refine aw_sti d_Model_parts_64 e_M64 ?_
  refine aw_aload_n d_Model_parts_65 rfl rfl ?_
  obtain ⟨t66, e_t66, h⟩ := q_bind h
  refine aw_gtr d_Model_parts_66 fl_Model_96 (Or.inr ⟨_, rfl⟩) e_t66 ?_
  refine aw_aload_n d_Model_parts_69 rfl rfl ?_
  obtain ⟨t70, e_t70, h⟩ := q_bind h
  refine aw_gti d_Model_parts_70 fl_Model_200 (Or.inl rfl) e_t70 ?_
  refine aw_aload_n d_Model_parts_73 rfl rfl ?_
  obtain ⟨t74, e_t74, h⟩ := q_bind h
  refine aw_gtr d_Model_parts_74 fl_Model_36 (Or.inr ⟨_, rfl⟩) e_t74 ?_
  refine aw_iload_n d_Model_parts_77 rfl rfl ?_
  obtain ⟨t78, e_t78, h⟩ := q_bind h
  refine aw_ldi d_Model_parts_78 e_t78 ?_
  refine aw_aload_n d_Model_parts_79 rfl rfl ?_
  obtain ⟨t80, e_t80, h⟩ := q_bind h
  refine aw_gtr d_Model_parts_80 fl_Model_78 (Or.inr ⟨_, rfl⟩) e_t80 ?_
  refine aw_iconst (v := 0) d_Model_parts_83 (by decide) ?_
  obtain ⟨t84, e_t84, h⟩ := q_bind h
  refine aw_ldi d_Model_parts_84 e_t84 ?_
  refine aw_isub d_Model_parts_85 ?_
  obtain ⟨M86, e_M86, h⟩ := q_bind h
  refine aw_sti d_Model_parts_86 e_M86 ?_
  refine aw_aload_n d_Model_parts_87 rfl rfl ?_
  refine aw_dup d_Model_parts_88 rfl ?_
  obtain ⟨t89, e_t89, h⟩ := q_bind h
  refine aw_gti d_Model_parts_89 fl_Model_200 (Or.inl rfl) e_t89 ?_
  refine aw_iconst (v := 1) d_Model_parts_92 (by decide) ?_
  refine aw_iadd d_Model_parts_93 ?_
  obtain ⟨M94, e_M94, h⟩ := q_bind h
  refine aw_pti d_Model_parts_94 fl_Model_200 rfl rfl e_M94 ?_
  exact aw_pick [0, 1, 2] rfl (ih_2 _ _ _ _ h)
set_option maxHeartbeats 4000000 in
theorem s_Model_parts_2 {rc : Nat → Nat → Int32 → Int32 → am_M → Option (Unit × am_M)} {res : Unit} {M' : am_M} (ih_0 : ∀ (r0 : Nat) (x1 : Int32) (x2 : Int32) (M : am_M), rc 0 r0 x1 x2 M = some (res, M') → AW u_Model_parts R_Model_parts 0 0 7 [(0, .ref r0), (1, .int x1)] [] M (fun r M2 => r = .inl none ∧ M2 = M')) (ih_1 : ∀ (r0 : Nat) (x1 : Int32) (x2 : Int32) (M : am_M), rc 1 r0 x1 x2 M = some (res, M') → AW u_Model_parts R_Model_parts 0 0 55 [(0, .ref r0), (1, .int x1), (2, .int x2)] [] M (fun r M2 => r = .inl none ∧ M2 = M')) (ih_2 : ∀ (r0 : Nat) (x1 : Int32) (x2 : Int32) (M : am_M), rc 2 r0 x1 x2 M = some (res, M') → AW u_Model_parts R_Model_parts 0 0 97 [(0, .ref r0), (1, .int x1), (2, .int x2)] [] M (fun r M2 => r = .inl none ∧ M2 = M')) : ∀ (r0 : Nat) (x1 : Int32) (x2 : Int32) (M : am_M), a_Model_parts_2 rc r0 x1 x2 M = some (res, M') → AW u_Model_parts R_Model_parts 0 0 97 [(0, .ref r0), (1, .int x1), (2, .int x2)] [] M (fun r M2 => r = .inl none ∧ M2 = M') := by
  intro r0 x1 x2 M h
  unfold a_Model_parts_2 at h
  refine aw_aload_n d_Model_parts_97 rfl rfl ?_
  obtain ⟨t98, e_t98, h⟩ := q_bind h
  refine aw_gtr d_Model_parts_98 fl_Model_93 (Or.inr ⟨_, rfl⟩) e_t98 ?_
  refine aw_aload_n d_Model_parts_101 rfl rfl ?_
  obtain ⟨t102, e_t102, h⟩ := q_bind h
  refine aw_gti d_Model_parts_102 fl_Model_200 (Or.inl rfl) e_t102 ?_
  refine aw_iconst (v := 1) d_Model_parts_105 (by decide) ?_
  refine aw_isub d_Model_parts_106 ?_
  refine aw_iload_n d_Model_parts_107 rfl rfl ?_
  obtain ⟨M108, e_M108, h⟩ := q_bind h
  refine aw_sti d_Model_parts_108 e_M108 ?_
  refine aw_aload_n d_Model_parts_109 rfl rfl ?_
  obtain ⟨t110, e_t110, h⟩ := q_bind h
  refine aw_gtr d_Model_parts_110 fl_Model_99 (Or.inr ⟨_, rfl⟩) e_t110 ?_
  refine aw_aload_n d_Model_parts_113 rfl rfl ?_
  obtain ⟨t114, e_t114, h⟩ := q_bind h
  refine aw_gti d_Model_parts_114 fl_Model_200 (Or.inl rfl) e_t114 ?_
  refine aw_iconst (v := 1) d_Model_parts_117 (by decide) ?_
  refine aw_isub d_Model_parts_118 ?_
  refine aw_aload_n d_Model_parts_119 rfl rfl ?_
  obtain ⟨t120, e_t120, h⟩ := q_bind h
  refine aw_gtr d_Model_parts_120 fl_Model_39 (Or.inr ⟨_, rfl⟩) e_t120 ?_
  refine aw_iload_n d_Model_parts_123 rfl rfl ?_
  obtain ⟨t124, e_t124, h⟩ := q_bind h
  refine aw_ldi d_Model_parts_124 e_t124 ?_
  refine aw_aload_n d_Model_parts_125 rfl rfl ?_
  obtain ⟨t126, e_t126, h⟩ := q_bind h
  refine aw_gtr d_Model_parts_126 fl_Model_78 (Or.inr ⟨_, rfl⟩) e_t126 ?_
  refine aw_iconst (v := 1) d_Model_parts_129 (by decide) ?_
  obtain ⟨t130, e_t130, h⟩ := q_bind h
  refine aw_ldi d_Model_parts_130 e_t130 ?_
  refine aw_iadd d_Model_parts_131 ?_
  obtain ⟨M132, e_M132, h⟩ := q_bind h
  refine aw_sti d_Model_parts_132 e_M132 ?_
  refine aw_iinc (v := (x1 + (1 : Int32))) (ls' := [(1, .int _), (0, .ref _), (2, .int _)]) d_Model_parts_133 rfl rfl (Nat.le_of_ble_eq_true rfl) rfl ?_
  refine aw_goto (tgt := 7) d_Model_parts_136 (by decide) ?_
  exact aw_pick [1, 0] rfl (ih_0 _ _ _ _ h)
theorem l_Model_parts {res : Unit} {M' : am_M} : ∀ F : Nat, (∀ (r0 : Nat) (x1 : Int32) (x2 : Int32) (M : am_M), g_Model_parts F 0 r0 x1 x2 M = some (res, M') → AW u_Model_parts R_Model_parts 0 0 7 [(0, .ref r0), (1, .int x1)] [] M (fun r M2 => r = .inl none ∧ M2 = M')) ∧ (∀ (r0 : Nat) (x1 : Int32) (x2 : Int32) (M : am_M), g_Model_parts F 1 r0 x1 x2 M = some (res, M') → AW u_Model_parts R_Model_parts 0 0 55 [(0, .ref r0), (1, .int x1), (2, .int x2)] [] M (fun r M2 => r = .inl none ∧ M2 = M')) ∧ (∀ (r0 : Nat) (x1 : Int32) (x2 : Int32) (M : am_M), g_Model_parts F 2 r0 x1 x2 M = some (res, M') → AW u_Model_parts R_Model_parts 0 0 97 [(0, .ref r0), (1, .int x1), (2, .int x2)] [] M (fun r M2 => r = .inl none ∧ M2 = M')) := by
  intro F
  induction F with
  | zero => exact ⟨fun _ _ _ _  h => (by cases h), fun _ _ _ _  h => (by cases h), fun _ _ _ _  h => (by cases h)⟩
  | succ F ih =>
    obtain ⟨ih0, ih1, ih2⟩ := ih
    exact ⟨s_Model_parts_0 ih0 ih1 ih2, s_Model_parts_1 ih0 ih1 ih2, s_Model_parts_2 ih0 ih1 ih2⟩
set_option maxHeartbeats 4000000 in
theorem mt_Model_parts {M : am_M} {a0 : Nat} {res : Unit} {M' : am_M} (h : f_Model_parts M a0 = some (res, M')) : AMet y_Model_parts u_Model_parts R_Model_parts [.ref a0] M (fun r M2 => r = .inl none ∧ M2 = M') := by
  refine am_met (by decide +kernel) w_Model_parts rfl rfl (Nat.le_of_ble_eq_true rfl) ?_
  show AW u_Model_parts R_Model_parts 0 0 0 [(0, .ref a0)] [] M (fun r M2 => r = .inl none ∧ M2 = M')
  have ih_0 := (l_Model_parts (res := res) (M' := M') 1000000000).1
  have ih_1 := (l_Model_parts (res := res) (M' := M') 1000000000).2.1
  have ih_2 := (l_Model_parts (res := res) (M' := M') 1000000000).2.2
  unfold f_Model_parts at h
  unfold e_Model_parts at h
  generalize g_Model_parts 1000000000 = rc at h ih_0 ih_1 ih_2
  refine aw_aload_n d_Model_parts_0 rfl rfl ?_
  refine aw_iconst (v := 0) d_Model_parts_1 (by decide) ?_
  obtain ⟨M2, e_M2, h⟩ := q_bind h
  refine aw_pti d_Model_parts_2 fl_Model_200 rfl rfl e_M2 ?_
  refine aw_iconst (v := 0) d_Model_parts_5 (by decide) ?_
  refine aw_istore_n (ls' := [(1, .int _), (0, .ref _)]) d_Model_parts_6 rfl (Nat.le_of_ble_eq_true rfl) rfl ?_
  exact aw_pick [1, 0] rfl (ih_0 _ _ _ _ h)
def y_Model_flying : MethodName := ⟨"CrewOfficeModel", "flying", "()I"⟩
def u_Model_flying : am_U := ("CrewOfficeModel", "flying", prog_12_method_23_code, 3, (some .int), [])
def R_Model_flying : Room := { frames := 0, cells := 0, slots := 0, locals := 0 }
theorem d_Model_flying_0 : decode u_Model_flying.2.2.1 0 = .ok (.iconst 0, 1) := by decide +kernel
theorem d_Model_flying_1 : decode u_Model_flying.2.2.1 1 = .ok (.istore_n 1, 1) := by decide +kernel
theorem d_Model_flying_2 : decode u_Model_flying.2.2.1 2 = .ok (.iconst 0, 1) := by decide +kernel
theorem d_Model_flying_3 : decode u_Model_flying.2.2.1 3 = .ok (.istore_n 2, 1) := by decide +kernel
theorem d_Model_flying_4 : decode u_Model_flying.2.2.1 4 = .ok (.iload_n 2, 1) := by decide +kernel
theorem d_Model_flying_5 : decode u_Model_flying.2.2.1 5 = .ok (.aload_n 0, 1) := by decide +kernel
theorem d_Model_flying_6 : decode u_Model_flying.2.2.1 6 = .ok (.getfield 203, 3) := by decide +kernel
theorem d_Model_flying_9 : decode u_Model_flying.2.2.1 9 = .ok (.if_icmp .ge 35, 3) := by decide +kernel
theorem d_Model_flying_12 : decode u_Model_flying.2.2.1 12 = .ok (.iload_n 1, 1) := by decide +kernel
theorem d_Model_flying_13 : decode u_Model_flying.2.2.1 13 = .ok (.aload_n 0, 1) := by decide +kernel
theorem d_Model_flying_14 : decode u_Model_flying.2.2.1 14 = .ok (.getfield 39, 3) := by decide +kernel
theorem d_Model_flying_17 : decode u_Model_flying.2.2.1 17 = .ok (.aload_n 0, 1) := by decide +kernel
theorem d_Model_flying_18 : decode u_Model_flying.2.2.1 18 = .ok (.getfield 87, 3) := by decide +kernel
theorem d_Model_flying_21 : decode u_Model_flying.2.2.1 21 = .ok (.iload_n 2, 1) := by decide +kernel
theorem d_Model_flying_22 : decode u_Model_flying.2.2.1 22 = .ok (.iaload, 1) := by decide +kernel
theorem d_Model_flying_23 : decode u_Model_flying.2.2.1 23 = .ok (.iaload, 1) := by decide +kernel
theorem d_Model_flying_24 : decode u_Model_flying.2.2.1 24 = .ok (.aload_n 0, 1) := by decide +kernel
theorem d_Model_flying_25 : decode u_Model_flying.2.2.1 25 = .ok (.getfield 36, 3) := by decide +kernel
theorem d_Model_flying_28 : decode u_Model_flying.2.2.1 28 = .ok (.aload_n 0, 1) := by decide +kernel
theorem d_Model_flying_29 : decode u_Model_flying.2.2.1 29 = .ok (.getfield 87, 3) := by decide +kernel
theorem d_Model_flying_32 : decode u_Model_flying.2.2.1 32 = .ok (.iload_n 2, 1) := by decide +kernel
theorem d_Model_flying_33 : decode u_Model_flying.2.2.1 33 = .ok (.iaload, 1) := by decide +kernel
theorem d_Model_flying_34 : decode u_Model_flying.2.2.1 34 = .ok (.iaload, 1) := by decide +kernel
theorem d_Model_flying_35 : decode u_Model_flying.2.2.1 35 = .ok (.isub, 1) := by decide +kernel
theorem d_Model_flying_36 : decode u_Model_flying.2.2.1 36 = .ok (.iadd, 1) := by decide +kernel
theorem d_Model_flying_37 : decode u_Model_flying.2.2.1 37 = .ok (.istore_n 1, 1) := by decide +kernel
theorem d_Model_flying_38 : decode u_Model_flying.2.2.1 38 = .ok (.iinc 2 1, 3) := by decide +kernel
theorem d_Model_flying_41 : decode u_Model_flying.2.2.1 41 = .ok (.goto (-37), 3) := by decide +kernel
theorem d_Model_flying_44 : decode u_Model_flying.2.2.1 44 = .ok (.iload_n 1, 1) := by decide +kernel
theorem d_Model_flying_45 : decode u_Model_flying.2.2.1 45 = .ok (.ireturn, 1) := by decide +kernel
theorem w_Model_flying : am_code y_Model_flying u_Model_flying ∈ am_ws := am_mem (List.mem_of_getElem? (i := 1284) (by decide +kernel)) rfl
def a_Model_flying_0 (rc : Nat → Nat → Int32 → Int32 → am_M → Option (Int32)) (r0 : Nat) (x1 : Int32) (x2 : Int32) (M : am_M) : Option (Int32) := (q_gti M r0 10 28).bind (fun t6 => if t6 ≤ x2 then (some x1) else ((q_gtr M r0 10 10).bind (fun t14 => (q_gtr M r0 10 27).bind (fun t18 => (q_ldi M t18 x2).bind (fun t22 => (q_ldi M t14 t22).bind (fun t23 => (q_gtr M r0 10 9).bind (fun t25 => (q_gtr M r0 10 27).bind (fun t29 => (q_ldi M t29 x2).bind (fun t33 => (q_ldi M t25 t33).bind (fun t34 => rc 0 r0 (x1 + (t23 - t34)) (x2 + (1 : Int32)) M))))))))))
def g_Model_flying : Nat → Nat → Nat → Int32 → Int32 → am_M → Option (Int32)
  | 0, _, _, _, _, _ => none
  | F + 1, 0, r0, x1, x2, M => a_Model_flying_0 (g_Model_flying F) r0 x1 x2 M
  | _ + 1, _ + 1, _, _, _, _ => none
def e_Model_flying (rc : Nat → Nat → Int32 → Int32 → am_M → Option (Int32)) (M : am_M) (a0 : Nat) : Option (Int32) := rc 0 a0 (0 : Int32) (0 : Int32) M
def f_Model_flying (M : am_M) (a0 : Nat) : Option (Int32) := e_Model_flying (g_Model_flying 1000000000) M a0
set_option maxHeartbeats 4000000 in
theorem s_Model_flying_0 {rc : Nat → Nat → Int32 → Int32 → am_M → Option (Int32)} {res : Int32} (ih_0 : ∀ (r0 : Nat) (x1 : Int32) (x2 : Int32) (M : am_M), rc 0 r0 x1 x2 M = some res → AW u_Model_flying R_Model_flying 0 0 4 [(0, .ref r0), (1, .int x1), (2, .int x2)] [] M (fun r M2 => r = .inl (some (.int res)) ∧ M2 = M)) : ∀ (r0 : Nat) (x1 : Int32) (x2 : Int32) (M : am_M), a_Model_flying_0 rc r0 x1 x2 M = some res → AW u_Model_flying R_Model_flying 0 0 4 [(0, .ref r0), (1, .int x1), (2, .int x2)] [] M (fun r M2 => r = .inl (some (.int res)) ∧ M2 = M) := by
  intro r0 x1 x2 M h
  unfold a_Model_flying_0 at h
  refine aw_iload_n d_Model_flying_4 rfl rfl ?_
  refine aw_aload_n d_Model_flying_5 rfl rfl ?_
  obtain ⟨t6, e_t6, h⟩ := q_bind h
  refine aw_gti d_Model_flying_6 fl_Model_203 (Or.inl rfl) e_t6 ?_
  refine aw_icmp_ge (tgt := 44) d_Model_flying_9 (by decide) (fun hc => ?_) (fun hc => ?_)
  · rw [if_pos hc] at h
    refine aw_iload_n d_Model_flying_44 rfl rfl ?_
    cases h
    exact aw_ireturn d_Model_flying_45 rfl (Nat.le_of_ble_eq_true rfl) (Nat.le_of_ble_eq_true rfl) ⟨rfl, rfl⟩
  · rw [if_neg hc] at h
    refine aw_iload_n d_Model_flying_12 rfl rfl ?_
    refine aw_aload_n d_Model_flying_13 rfl rfl ?_
    obtain ⟨t14, e_t14, h⟩ := q_bind h
    refine aw_gtr d_Model_flying_14 fl_Model_39 (Or.inr ⟨_, rfl⟩) e_t14 ?_
    refine aw_aload_n d_Model_flying_17 rfl rfl ?_
    obtain ⟨t18, e_t18, h⟩ := q_bind h
    refine aw_gtr d_Model_flying_18 fl_Model_87 (Or.inr ⟨_, rfl⟩) e_t18 ?_
    refine aw_iload_n d_Model_flying_21 rfl rfl ?_
    obtain ⟨t22, e_t22, h⟩ := q_bind h
    refine aw_ldi d_Model_flying_22 e_t22 ?_
    obtain ⟨t23, e_t23, h⟩ := q_bind h
    refine aw_ldi d_Model_flying_23 e_t23 ?_
    refine aw_aload_n d_Model_flying_24 rfl rfl ?_
    obtain ⟨t25, e_t25, h⟩ := q_bind h
    refine aw_gtr d_Model_flying_25 fl_Model_36 (Or.inr ⟨_, rfl⟩) e_t25 ?_
    refine aw_aload_n d_Model_flying_28 rfl rfl ?_
    obtain ⟨t29, e_t29, h⟩ := q_bind h
    refine aw_gtr d_Model_flying_29 fl_Model_87 (Or.inr ⟨_, rfl⟩) e_t29 ?_
    refine aw_iload_n d_Model_flying_32 rfl rfl ?_
    obtain ⟨t33, e_t33, h⟩ := q_bind h
    refine aw_ldi d_Model_flying_33 e_t33 ?_
    obtain ⟨t34, e_t34, h⟩ := q_bind h
    refine aw_ldi d_Model_flying_34 e_t34 ?_
    refine aw_isub d_Model_flying_35 ?_
    refine aw_iadd d_Model_flying_36 ?_
    refine aw_istore_n (ls' := [(1, .int _), (0, .ref _), (2, .int _)]) d_Model_flying_37 rfl (Nat.le_of_ble_eq_true rfl) rfl ?_
    refine aw_iinc (v := (x2 + (1 : Int32))) (ls' := [(2, .int _), (1, .int _), (0, .ref _)]) d_Model_flying_38 rfl rfl (Nat.le_of_ble_eq_true rfl) rfl ?_
    refine aw_goto (tgt := 4) d_Model_flying_41 (by decide) ?_
    exact aw_pick [2, 1, 0] rfl (ih_0 _ _ _ _ h)
theorem l_Model_flying {res : Int32} : ∀ F : Nat, (∀ (r0 : Nat) (x1 : Int32) (x2 : Int32) (M : am_M), g_Model_flying F 0 r0 x1 x2 M = some res → AW u_Model_flying R_Model_flying 0 0 4 [(0, .ref r0), (1, .int x1), (2, .int x2)] [] M (fun r M2 => r = .inl (some (.int res)) ∧ M2 = M)) := by
  intro F
  induction F with
  | zero => exact fun _ _ _ _  h => (by cases h)
  | succ F ih =>
    have ih0 := ih
    exact s_Model_flying_0 ih0
set_option maxHeartbeats 4000000 in
theorem mt_Model_flying {M : am_M} {a0 : Nat} {res : Int32} (h : f_Model_flying M a0 = some res) : AMet y_Model_flying u_Model_flying R_Model_flying [.ref a0] M (fun r M2 => r = .inl (some (.int res)) ∧ M2 = M) := by
  refine am_met (by decide +kernel) w_Model_flying rfl rfl (Nat.le_of_ble_eq_true rfl) ?_
  show AW u_Model_flying R_Model_flying 0 0 0 [(0, .ref a0)] [] M (fun r M2 => r = .inl (some (.int res)) ∧ M2 = M)
  have ih_0 := (l_Model_flying (res := res) 1000000000)
  unfold f_Model_flying at h
  unfold e_Model_flying at h
  generalize g_Model_flying 1000000000 = rc at h ih_0
  refine aw_iconst (v := 0) d_Model_flying_0 (by decide) ?_
  refine aw_istore_n (ls' := [(1, .int _), (0, .ref _)]) d_Model_flying_1 rfl (Nat.le_of_ble_eq_true rfl) rfl ?_
  refine aw_iconst (v := 0) d_Model_flying_2 (by decide) ?_
  refine aw_istore_n (ls' := [(2, .int _), (1, .int _), (0, .ref _)]) d_Model_flying_3 rfl (Nat.le_of_ble_eq_true rfl) rfl ?_
  exact aw_pick [2, 1, 0] rfl (ih_0 _ _ _ _ h)
