-- Choice_choose Clock_timeOfDay Clock_stretchEnd Listing_canBeNext Listing_addDraft Sharing_forget Sharing_countShared Sharing_findRivals Sharing_timesMet Trip_longestDuty Trip_limitOf
def y_Choice_choose : MethodName := ⟨"CrewOffice$Choice", "choose", "()I"⟩
def u_Choice_choose : am_U := ("CrewOffice$Choice", "choose", prog_2_method_3_code, 3, (some .int), [])
def R_Choice_choose : Room := { frames := 22, cells := 0, slots := 0, locals := 852 }
theorem d_Choice_choose_0 : decode u_Choice_choose.2.2.1 0 = .ok (.aload_n 0, 1) := by decide +kernel
theorem d_Choice_choose_1 : decode u_Choice_choose.2.2.1 1 = .ok (.getfield 26, 3) := by decide +kernel
theorem d_Choice_choose_4 : decode u_Choice_choose.2.2.1 4 = .ok (.invokevirtual 34, 3) := by decide +kernel
theorem d_Choice_choose_7 : decode u_Choice_choose.2.2.1 7 = .ok (.istore_n 1, 1) := by decide +kernel
theorem d_Choice_choose_8 : decode u_Choice_choose.2.2.1 8 = .ok (.aload_n 0, 1) := by decide +kernel
theorem d_Choice_choose_9 : decode u_Choice_choose.2.2.1 9 = .ok (.getfield 19, 3) := by decide +kernel
theorem d_Choice_choose_12 : decode u_Choice_choose.2.2.1 12 = .ok (.iconst (-1), 1) := by decide +kernel
theorem d_Choice_choose_13 : decode u_Choice_choose.2.2.1 13 = .ok (.invokestatic 40, 3) := by decide +kernel
theorem d_Choice_choose_16 : decode u_Choice_choose.2.2.1 16 = .ok (.aload_n 0, 1) := by decide +kernel
theorem d_Choice_choose_17 : decode u_Choice_choose.2.2.1 17 = .ok (.iload_n 1, 1) := by decide +kernel
theorem d_Choice_choose_18 : decode u_Choice_choose.2.2.1 18 = .ok (.invokevirtual 46, 3) := by decide +kernel
theorem d_Choice_choose_21 : decode u_Choice_choose.2.2.1 21 = .ok (.istore_n 2, 1) := by decide +kernel
theorem d_Choice_choose_22 : decode u_Choice_choose.2.2.1 22 = .ok (.iload_n 2, 1) := by decide +kernel
theorem d_Choice_choose_23 : decode u_Choice_choose.2.2.1 23 = .ok (.ldc 50, 2) := by decide +kernel
theorem d_Choice_choose_25 : decode u_Choice_choose.2.2.1 25 = .ok (.if_icmp .lt 5, 3) := by decide +kernel
theorem d_Choice_choose_28 : decode u_Choice_choose.2.2.1 28 = .ok (.iconst (-1), 1) := by decide +kernel
theorem d_Choice_choose_29 : decode u_Choice_choose.2.2.1 29 = .ok (.ireturn, 1) := by decide +kernel
theorem d_Choice_choose_30 : decode u_Choice_choose.2.2.1 30 = .ok (.aload_n 0, 1) := by decide +kernel
theorem d_Choice_choose_31 : decode u_Choice_choose.2.2.1 31 = .ok (.aload_n 0, 1) := by decide +kernel
theorem d_Choice_choose_32 : decode u_Choice_choose.2.2.1 32 = .ok (.getfield 22, 3) := by decide +kernel
theorem d_Choice_choose_35 : decode u_Choice_choose.2.2.1 35 = .ok (.iload_n 1, 1) := by decide +kernel
theorem d_Choice_choose_36 : decode u_Choice_choose.2.2.1 36 = .ok (.laload, 1) := by decide +kernel
theorem d_Choice_choose_37 : decode u_Choice_choose.2.2.1 37 = .ok (.invokevirtual 51, 3) := by decide +kernel
theorem d_Choice_choose_40 : decode u_Choice_choose.2.2.1 40 = .ok (.iload_n 2, 1) := by decide +kernel
theorem d_Choice_choose_41 : decode u_Choice_choose.2.2.1 41 = .ok (.aload_n 0, 1) := by decide +kernel
theorem d_Choice_choose_42 : decode u_Choice_choose.2.2.1 42 = .ok (.getfield 26, 3) := by decide +kernel
theorem d_Choice_choose_45 : decode u_Choice_choose.2.2.1 45 = .ok (.getfield 55, 3) := by decide +kernel
theorem d_Choice_choose_48 : decode u_Choice_choose.2.2.1 48 = .ok (.bipush 8, 2) := by decide +kernel
theorem d_Choice_choose_50 : decode u_Choice_choose.2.2.1 50 = .ok (.iaload, 1) := by decide +kernel
theorem d_Choice_choose_51 : decode u_Choice_choose.2.2.1 51 = .ok (.iload_n 1, 1) := by decide +kernel
theorem d_Choice_choose_52 : decode u_Choice_choose.2.2.1 52 = .ok (.invokestatic 58, 3) := by decide +kernel
theorem d_Choice_choose_55 : decode u_Choice_choose.2.2.1 55 = .ok (.imul, 1) := by decide +kernel
theorem d_Choice_choose_56 : decode u_Choice_choose.2.2.1 56 = .ok (.isub, 1) := by decide +kernel
theorem d_Choice_choose_57 : decode u_Choice_choose.2.2.1 57 = .ok (.ireturn, 1) := by decide +kernel
theorem w_Choice_choose : am_code y_Choice_choose u_Choice_choose ∈ am_ws := am_mem (List.mem_of_getElem? (i := 599) (by decide +kernel)) rfl
def e_Choice_choose (M : am_M) (a0 : Nat) : Option (Int32 × am_M) := (q_gtr M a0 7 0).bind (fun t1 => (q_ob M t1 3).bind (fun o4 => (f_Plan_flightsThere M t1).bind (fun t4 => (q_gtr M a0 7 4).bind (fun t9 => (f_Arrays_fill M t9 (-1 : Int32)).bind (fun p13 => (q_ob p13.2 a0 7).bind (fun o18 => (f_Choice_cheapest 20 p13.2 a0 t4).bind (fun p18 => if p18.1 < (536870912 : Int32) then ((q_gtr p18.2 a0 7 5).bind (fun t32 => (q_ldl p18.2 t32 t4).bind (fun t36 => (q_ob p18.2 a0 7).bind (fun o37 => (f_Choice_take p18.2 a0 t36).bind (fun p37 => (q_gtr p37.2 a0 7 0).bind (fun t42 => (q_gtr p37.2 t42 3 3).bind (fun t45 => (q_ldi p37.2 t45 (8 : Int32)).bind (fun t50 => (f_Integer_bitCount p37.2 t4).bind (fun t52 => some ((p18.1 - (t50 * t52)), p37.2)))))))))) else (some ((-1 : Int32), p18.2)))))))))
def f_Choice_choose (M : am_M) (a0 : Nat) : Option (Int32 × am_M) := e_Choice_choose M a0
theorem kV_Choice_34 : am_kV "CrewOffice$Choice" 34 3 y_Plan_flightsThere u_Plan_flightsThere 0 := ⟨List.mem_of_getElem? (i := 600) (by decide +kernel), ⟨List.mem_of_getElem? (i := 601) (by decide +kernel), List.mem_of_getElem? (i := 602) (by decide +kernel)⟩, List.mem_of_getElem? (i := 55) (by decide +kernel), w_Plan_flightsThere, ⟨⟨by decide +kernel, by decide +kernel⟩, by decide +kernel⟩⟩
theorem kS_Choice_40 : am_kS "CrewOffice$Choice" 40 y_Arrays_fill u_Arrays_fill 2 := ⟨List.mem_of_getElem? (i := 604) (by decide +kernel), List.mem_of_getElem? (i := 215) (by decide +kernel), List.mem_of_getElem? (i := 59) (by decide +kernel), w_Arrays_fill, ⟨⟨by decide +kernel, by decide +kernel⟩, by decide +kernel⟩⟩
theorem kV_Choice_51 : am_kV "CrewOffice$Choice" 51 7 y_Choice_take u_Choice_take 1 := ⟨List.mem_of_getElem? (i := 617) (by decide +kernel), ⟨List.mem_of_getElem? (i := 619) (by decide +kernel), List.mem_of_getElem? (i := 16) (by decide +kernel)⟩, List.mem_of_getElem? (i := 63) (by decide +kernel), w_Choice_take, ⟨⟨by decide +kernel, by decide +kernel⟩, by decide +kernel⟩⟩
theorem kS_Choice_58 : am_kS "CrewOffice$Choice" 58 y_Integer_bitCount u_Integer_bitCount 1 := ⟨List.mem_of_getElem? (i := 621) (by decide +kernel), List.mem_of_getElem? (i := 622) (by decide +kernel), List.mem_of_getElem? (i := 74) (by decide +kernel), w_Integer_bitCount, ⟨⟨by decide +kernel, by decide +kernel⟩, by decide +kernel⟩⟩
set_option maxHeartbeats 4000000 in
theorem mt_Choice_choose {M : am_M} {a0 : Nat} {res : Int32} {M' : am_M} (h : f_Choice_choose M a0 = some (res, M')) : AMet y_Choice_choose u_Choice_choose R_Choice_choose [.ref a0] M (fun r M2 => r = .inl (some (.int res)) ∧ M2 = M') := by
  refine am_met (by decide +kernel) w_Choice_choose rfl rfl (Nat.le_of_ble_eq_true rfl) ?_
  show AW u_Choice_choose R_Choice_choose 0 0 0 [(0, .ref a0)] [] M (fun r M2 => r = .inl (some (.int res)) ∧ M2 = M')
  unfold f_Choice_choose at h
  unfold e_Choice_choose at h
  refine aw_aload_n d_Choice_choose_0 rfl rfl ?_
  obtain ⟨t1, e_t1, h⟩ := q_bind h
  refine aw_gtr d_Choice_choose_1 fl_Choice_26 (Or.inl ⟨_, rfl⟩) e_t1 ?_
  obtain ⟨o4, e_o4, h⟩ := q_bind h
  obtain ⟨t4, e_t4, h⟩ := q_bind h
  refine aw_cV (v := (some (.int t4))) (As := []) (rest := []) (st' := [.int t4]) d_Choice_choose_4 kV_Choice_34 (q_ob_spec e_o4).1 (q_ob_spec e_o4).2 ⟨Nat.le_of_ble_eq_true rfl, Nat.le_of_ble_eq_true rfl, Nat.le_of_ble_eq_true rfl, Nat.le_of_ble_eq_true rfl⟩ rfl rfl (Nat.le_of_ble_eq_true rfl) rfl (mt_Plan_flightsThere e_t4) ?_
  refine aw_istore_n (ls' := [(1, .int _), (0, .ref _)]) d_Choice_choose_7 rfl (Nat.le_of_ble_eq_true rfl) rfl ?_
  refine aw_aload_n d_Choice_choose_8 rfl rfl ?_
  obtain ⟨t9, e_t9, h⟩ := q_bind h
  refine aw_gtr d_Choice_choose_9 fl_Choice_19 (Or.inr ⟨_, rfl⟩) e_t9 ?_
  refine aw_iconst (v := -1) d_Choice_choose_12 (by decide) ?_
  obtain ⟨⟨t13, M13⟩, e_t13, h⟩ := q_bind h
  dsimp only at h
  refine aw_cS (v := none) (As := [.ref t9, .int (-1 : Int32)]) (rest := []) (st' := []) d_Choice_choose_13 kS_Choice_40 ⟨Nat.le_of_ble_eq_true rfl, Nat.le_of_ble_eq_true rfl, Nat.le_of_ble_eq_true rfl, Nat.le_of_ble_eq_true rfl⟩ rfl rfl (Nat.le_of_ble_eq_true rfl) rfl (mt_Arrays_fill e_t13) ?_
  refine aw_aload_n d_Choice_choose_16 rfl rfl ?_
  refine aw_iload_n d_Choice_choose_17 rfl rfl ?_
  obtain ⟨o18, e_o18, h⟩ := q_bind h
  obtain ⟨⟨t18, M18⟩, e_t18, h⟩ := q_bind h
  dsimp only at h
  refine aw_cV (v := (some (.int t18))) (As := [.int t4]) (rest := []) (st' := [.int t18]) d_Choice_choose_18 kV_Choice_46 (q_ob_spec e_o18).1 (q_ob_spec e_o18).2 ⟨Nat.le_of_ble_eq_true rfl, Nat.le_of_ble_eq_true rfl, Nat.le_of_ble_eq_true rfl, Nat.le_of_ble_eq_true rfl⟩ rfl rfl (Nat.le_of_ble_eq_true rfl) rfl (mt_Choice_cheapest 20 e_t18) ?_
  refine aw_istore_n (ls' := [(2, .int _), (1, .int _), (0, .ref _)]) d_Choice_choose_21 rfl (Nat.le_of_ble_eq_true rfl) rfl ?_
  refine aw_iload_n d_Choice_choose_22 rfl rfl ?_
  refine aw_ldc (v := 536870912) d_Choice_choose_23 (List.mem_of_getElem? (i := 609) (by decide +kernel)) ?_
  refine aw_icmp_lt (tgt := 30) d_Choice_choose_25 (by decide) (fun hc => ?_) (fun hc => ?_)
  · rw [if_pos hc] at h
    refine aw_aload_n d_Choice_choose_30 rfl rfl ?_
    refine aw_aload_n d_Choice_choose_31 rfl rfl ?_
    obtain ⟨t32, e_t32, h⟩ := q_bind h
    refine aw_gtr d_Choice_choose_32 fl_Choice_22 (Or.inr ⟨_, rfl⟩) e_t32 ?_
    refine aw_iload_n d_Choice_choose_35 rfl rfl ?_
    obtain ⟨t36, e_t36, h⟩ := q_bind h
    refine aw_ldl d_Choice_choose_36 e_t36 ?_
    obtain ⟨o37, e_o37, h⟩ := q_bind h
    obtain ⟨⟨t37, M37⟩, e_t37, h⟩ := q_bind h
    dsimp only at h
    refine aw_cV (v := none) (As := [.long t36]) (rest := []) (st' := []) d_Choice_choose_37 kV_Choice_51 (q_ob_spec e_o37).1 (q_ob_spec e_o37).2 ⟨Nat.le_of_ble_eq_true rfl, Nat.le_of_ble_eq_true rfl, Nat.le_of_ble_eq_true rfl, Nat.le_of_ble_eq_true rfl⟩ rfl rfl (Nat.le_of_ble_eq_true rfl) rfl (mt_Choice_take e_t37) ?_
    refine aw_iload_n d_Choice_choose_40 rfl rfl ?_
    refine aw_aload_n d_Choice_choose_41 rfl rfl ?_
    obtain ⟨t42, e_t42, h⟩ := q_bind h
    refine aw_gtr d_Choice_choose_42 fl_Choice_26 (Or.inl ⟨_, rfl⟩) e_t42 ?_
    obtain ⟨t45, e_t45, h⟩ := q_bind h
    refine aw_gtr d_Choice_choose_45 fl_Choice_55 (Or.inr ⟨_, rfl⟩) e_t45 ?_
    refine aw_bipush (v := 8) d_Choice_choose_48 (by decide) ?_
    obtain ⟨t50, e_t50, h⟩ := q_bind h
    refine aw_ldi d_Choice_choose_50 e_t50 ?_
    refine aw_iload_n d_Choice_choose_51 rfl rfl ?_
    obtain ⟨t52, e_t52, h⟩ := q_bind h
    refine aw_cS (v := (some (.int t52))) (As := [.int t4]) (rest := [.int t50, .int t18]) (st' := [.int t52, .int t50, .int t18]) d_Choice_choose_52 kS_Choice_58 ⟨Nat.le_of_ble_eq_true rfl, Nat.le_of_ble_eq_true rfl, Nat.le_of_ble_eq_true rfl, Nat.le_of_ble_eq_true rfl⟩ rfl rfl (Nat.le_of_ble_eq_true rfl) rfl (mt_Integer_bitCount e_t52) ?_
    refine aw_imul d_Choice_choose_55 ?_
    refine aw_isub d_Choice_choose_56 ?_
    cases h
    exact aw_ireturn d_Choice_choose_57 rfl (Nat.le_of_ble_eq_true rfl) (Nat.le_of_ble_eq_true rfl) ⟨rfl, rfl⟩
  · rw [if_neg hc] at h
    refine aw_iconst (v := -1) d_Choice_choose_28 (by decide) ?_
    cases h
    exact aw_ireturn d_Choice_choose_29 rfl (Nat.le_of_ble_eq_true rfl) (Nat.le_of_ble_eq_true rfl) ⟨rfl, rfl⟩
def y_Clock_timeOfDay : MethodName := ⟨"CrewOffice$Clock", "timeOfDay", "(I)I"⟩
def u_Clock_timeOfDay : am_U := ("CrewOffice$Clock", "timeOfDay", prog_3_method_4_code, 2, (some .int), [])
def R_Clock_timeOfDay : Room := { frames := 1, cells := 0, slots := 0, locals := 22 }
theorem d_Clock_timeOfDay_0 : decode u_Clock_timeOfDay.2.2.1 0 = .ok (.aload_n 0, 1) := by decide +kernel
theorem d_Clock_timeOfDay_1 : decode u_Clock_timeOfDay.2.2.1 1 = .ok (.iload_n 1, 1) := by decide +kernel
theorem d_Clock_timeOfDay_2 : decode u_Clock_timeOfDay.2.2.1 2 = .ok (.invokevirtual 21, 3) := by decide +kernel
theorem d_Clock_timeOfDay_5 : decode u_Clock_timeOfDay.2.2.1 5 = .ok (.sipush 1440, 3) := by decide +kernel
theorem d_Clock_timeOfDay_8 : decode u_Clock_timeOfDay.2.2.1 8 = .ok (.invokestatic 25, 3) := by decide +kernel
theorem d_Clock_timeOfDay_11 : decode u_Clock_timeOfDay.2.2.1 11 = .ok (.ireturn, 1) := by decide +kernel
theorem w_Clock_timeOfDay : am_code y_Clock_timeOfDay u_Clock_timeOfDay ∈ am_ws := am_mem (List.mem_of_getElem? (i := 535) (by decide +kernel)) rfl
def e_Clock_timeOfDay (M : am_M) (a0 : Nat) (a1 : Int32) : Option (Int32) := (q_ob M a0 0).bind (fun o2 => (f_Clock_localOf M a0 a1).bind (fun t2 => (f_Math_floorMod M t2 (1440 : Int32)).bind (fun t8 => some t8)))
def f_Clock_timeOfDay (M : am_M) (a0 : Nat) (a1 : Int32) : Option (Int32) := e_Clock_timeOfDay M a0 a1
theorem kV_Clock_21 : am_kV "CrewOffice$Clock" 21 0 y_Clock_localOf u_Clock_localOf 1 := ⟨List.mem_of_getElem? (i := 536) (by decide +kernel), ⟨List.mem_of_getElem? (i := 537) (by decide +kernel), List.mem_of_getElem? (i := 538) (by decide +kernel)⟩, List.mem_of_getElem? (i := 56) (by decide +kernel), w_Clock_localOf, ⟨⟨by decide +kernel, by decide +kernel⟩, by decide +kernel⟩⟩
theorem kS_Clock_25 : am_kS "CrewOffice$Clock" 25 y_Math_floorMod u_Math_floorMod 2 := ⟨List.mem_of_getElem? (i := 540) (by decide +kernel), List.mem_of_getElem? (i := 541) (by decide +kernel), List.mem_of_getElem? (i := 72) (by decide +kernel), w_Math_floorMod, ⟨⟨by decide +kernel, by decide +kernel⟩, by decide +kernel⟩⟩
set_option maxHeartbeats 4000000 in
theorem mt_Clock_timeOfDay {M : am_M} {a0 : Nat} {a1 : Int32} {res : Int32} (h : f_Clock_timeOfDay M a0 a1 = some res) : AMet y_Clock_timeOfDay u_Clock_timeOfDay R_Clock_timeOfDay [.ref a0, .int a1] M (fun r M2 => r = .inl (some (.int res)) ∧ M2 = M) := by
  refine am_met (by decide +kernel) w_Clock_timeOfDay rfl rfl (Nat.le_of_ble_eq_true rfl) ?_
  show AW u_Clock_timeOfDay R_Clock_timeOfDay 0 0 0 [(0, .ref a0), (1, .int a1)] [] M (fun r M2 => r = .inl (some (.int res)) ∧ M2 = M)
  unfold f_Clock_timeOfDay at h
  unfold e_Clock_timeOfDay at h
  refine aw_aload_n d_Clock_timeOfDay_0 rfl rfl ?_
  refine aw_iload_n d_Clock_timeOfDay_1 rfl rfl ?_
  obtain ⟨o2, e_o2, h⟩ := q_bind h
  obtain ⟨t2, e_t2, h⟩ := q_bind h
  refine aw_cV (v := (some (.int t2))) (As := [.int a1]) (rest := []) (st' := [.int t2]) d_Clock_timeOfDay_2 kV_Clock_21 (q_ob_spec e_o2).1 (q_ob_spec e_o2).2 ⟨Nat.le_of_ble_eq_true rfl, Nat.le_of_ble_eq_true rfl, Nat.le_of_ble_eq_true rfl, Nat.le_of_ble_eq_true rfl⟩ rfl rfl (Nat.le_of_ble_eq_true rfl) rfl (mt_Clock_localOf e_t2) ?_
  refine aw_sipush (v := 1440) d_Clock_timeOfDay_5 (by decide) ?_
  obtain ⟨t8, e_t8, h⟩ := q_bind h
  refine aw_cS (v := (some (.int t8))) (As := [.int t2, .int (1440 : Int32)]) (rest := []) (st' := [.int t8]) d_Clock_timeOfDay_8 kS_Clock_25 ⟨Nat.le_of_ble_eq_true rfl, Nat.le_of_ble_eq_true rfl, Nat.le_of_ble_eq_true rfl, Nat.le_of_ble_eq_true rfl⟩ rfl rfl (Nat.le_of_ble_eq_true rfl) rfl (mt_Math_floorMod e_t8) ?_
  cases h
  exact aw_ireturn d_Clock_timeOfDay_11 rfl (Nat.le_of_ble_eq_true rfl) (Nat.le_of_ble_eq_true rfl) ⟨rfl, rfl⟩
def y_Clock_stretchEnd : MethodName := ⟨"CrewOffice$Clock", "stretchEnd", "(II)I"⟩
def u_Clock_stretchEnd : am_U := ("CrewOffice$Clock", "stretchEnd", prog_3_method_6_code, 5, (some .int), [])
def R_Clock_stretchEnd : Room := { frames := 1, cells := 0, slots := 0, locals := 21 }
theorem d_Clock_stretchEnd_0 : decode u_Clock_stretchEnd.2.2.1 0 = .ok (.sipush 1800, 3) := by decide +kernel
theorem d_Clock_stretchEnd_3 : decode u_Clock_stretchEnd.2.2.1 3 = .ok (.istore_n 3, 1) := by decide +kernel
theorem d_Clock_stretchEnd_4 : decode u_Clock_stretchEnd.2.2.1 4 = .ok (.iload_n 2, 1) := by decide +kernel
theorem d_Clock_stretchEnd_5 : decode u_Clock_stretchEnd.2.2.1 5 = .ok (.sipush 360, 3) := by decide +kernel
theorem d_Clock_stretchEnd_8 : decode u_Clock_stretchEnd.2.2.1 8 = .ok (.if_icmp .ge 10, 3) := by decide +kernel
theorem d_Clock_stretchEnd_11 : decode u_Clock_stretchEnd.2.2.1 11 = .ok (.sipush 360, 3) := by decide +kernel
theorem d_Clock_stretchEnd_14 : decode u_Clock_stretchEnd.2.2.1 14 = .ok (.istore_n 3, 1) := by decide +kernel
theorem d_Clock_stretchEnd_15 : decode u_Clock_stretchEnd.2.2.1 15 = .ok (.goto 14, 3) := by decide +kernel
theorem d_Clock_stretchEnd_18 : decode u_Clock_stretchEnd.2.2.1 18 = .ok (.iload_n 2, 1) := by decide +kernel
theorem d_Clock_stretchEnd_19 : decode u_Clock_stretchEnd.2.2.1 19 = .ok (.sipush 1320, 3) := by decide +kernel
theorem d_Clock_stretchEnd_22 : decode u_Clock_stretchEnd.2.2.1 22 = .ok (.if_icmp .ge 7, 3) := by decide +kernel
theorem d_Clock_stretchEnd_25 : decode u_Clock_stretchEnd.2.2.1 25 = .ok (.sipush 1320, 3) := by decide +kernel
theorem d_Clock_stretchEnd_28 : decode u_Clock_stretchEnd.2.2.1 28 = .ok (.istore_n 3, 1) := by decide +kernel
theorem d_Clock_stretchEnd_29 : decode u_Clock_stretchEnd.2.2.1 29 = .ok (.iload_n 1, 1) := by decide +kernel
theorem d_Clock_stretchEnd_30 : decode u_Clock_stretchEnd.2.2.1 30 = .ok (.iload_n 3, 1) := by decide +kernel
theorem d_Clock_stretchEnd_31 : decode u_Clock_stretchEnd.2.2.1 31 = .ok (.iadd, 1) := by decide +kernel
theorem d_Clock_stretchEnd_32 : decode u_Clock_stretchEnd.2.2.1 32 = .ok (.iload_n 2, 1) := by decide +kernel
theorem d_Clock_stretchEnd_33 : decode u_Clock_stretchEnd.2.2.1 33 = .ok (.isub, 1) := by decide +kernel
theorem d_Clock_stretchEnd_34 : decode u_Clock_stretchEnd.2.2.1 34 = .ok (.istore 4, 2) := by decide +kernel
theorem d_Clock_stretchEnd_36 : decode u_Clock_stretchEnd.2.2.1 36 = .ok (.iload_n 1, 1) := by decide +kernel
theorem d_Clock_stretchEnd_37 : decode u_Clock_stretchEnd.2.2.1 37 = .ok (.aload_n 0, 1) := by decide +kernel
theorem d_Clock_stretchEnd_38 : decode u_Clock_stretchEnd.2.2.1 38 = .ok (.getfield 15, 3) := by decide +kernel
theorem d_Clock_stretchEnd_41 : decode u_Clock_stretchEnd.2.2.1 41 = .ok (.if_icmp .ge 15, 3) := by decide +kernel
theorem d_Clock_stretchEnd_44 : decode u_Clock_stretchEnd.2.2.1 44 = .ok (.iload 4, 2) := by decide +kernel
theorem d_Clock_stretchEnd_46 : decode u_Clock_stretchEnd.2.2.1 46 = .ok (.aload_n 0, 1) := by decide +kernel
theorem d_Clock_stretchEnd_47 : decode u_Clock_stretchEnd.2.2.1 47 = .ok (.getfield 15, 3) := by decide +kernel
theorem d_Clock_stretchEnd_50 : decode u_Clock_stretchEnd.2.2.1 50 = .ok (.invokestatic 37, 3) := by decide +kernel
theorem d_Clock_stretchEnd_53 : decode u_Clock_stretchEnd.2.2.1 53 = .ok (.goto 5, 3) := by decide +kernel
theorem d_Clock_stretchEnd_56 : decode u_Clock_stretchEnd.2.2.1 56 = .ok (.iload 4, 2) := by decide +kernel
theorem d_Clock_stretchEnd_58 : decode u_Clock_stretchEnd.2.2.1 58 = .ok (.ireturn, 1) := by decide +kernel
theorem w_Clock_stretchEnd : am_code y_Clock_stretchEnd u_Clock_stretchEnd ∈ am_ws := am_mem (List.mem_of_getElem? (i := 565) (by decide +kernel)) rfl
def a_Clock_stretchEnd_0 (rc : Nat → Nat → Int32 → Int32 → Int32 → am_M → Option (Int32)) (r0 : Nat) (x1 : Int32) (x2 : Int32) (x3 : Int32) (M : am_M) : Option (Int32) := (q_gti M r0 0 1).bind (fun t38 => if t38 ≤ x1 then (some ((x1 + x3) - x2)) else ((q_gti M r0 0 1).bind (fun t47 => (f_Math_min M ((x1 + x3) - x2) t47).bind (fun t50 => some t50))))
def g_Clock_stretchEnd : Nat → Nat → Nat → Int32 → Int32 → Int32 → am_M → Option (Int32)
  | 0, _, _, _, _, _, _ => none
  | F + 1, 0, r0, x1, x2, x3, M => a_Clock_stretchEnd_0 (g_Clock_stretchEnd F) r0 x1 x2 x3 M
  | _ + 1, _ + 1, _, _, _, _, _ => none
def e_Clock_stretchEnd (rc : Nat → Nat → Int32 → Int32 → Int32 → am_M → Option (Int32)) (M : am_M) (a0 : Nat) (a1 : Int32) (a2 : Int32) : Option (Int32) := if (360 : Int32) ≤ a2 then (if (1320 : Int32) ≤ a2 then (rc 0 a0 a1 a2 (1800 : Int32) M) else (rc 0 a0 a1 a2 (1320 : Int32) M)) else (rc 0 a0 a1 a2 (360 : Int32) M)
def f_Clock_stretchEnd (M : am_M) (a0 : Nat) (a1 : Int32) (a2 : Int32) : Option (Int32) := e_Clock_stretchEnd (g_Clock_stretchEnd 1000000000) M a0 a1 a2
theorem kS_Clock_37 : am_kS "CrewOffice$Clock" 37 y_Math_min u_Math_min 2 := ⟨List.mem_of_getElem? (i := 566) (by decide +kernel), List.mem_of_getElem? (i := 544) (by decide +kernel), List.mem_of_getElem? (i := 72) (by decide +kernel), w_Math_min, ⟨⟨by decide +kernel, by decide +kernel⟩, by decide +kernel⟩⟩
set_option maxHeartbeats 4000000 in
theorem s_Clock_stretchEnd_0 {rc : Nat → Nat → Int32 → Int32 → Int32 → am_M → Option (Int32)} {res : Int32} (ih_0 : ∀ (r0 : Nat) (x1 : Int32) (x2 : Int32) (x3 : Int32) (M : am_M), rc 0 r0 x1 x2 x3 M = some res → AW u_Clock_stretchEnd R_Clock_stretchEnd 0 0 29 [(0, .ref r0), (1, .int x1), (2, .int x2), (3, .int x3)] [] M (fun r M2 => r = .inl (some (.int res)) ∧ M2 = M)) : ∀ (r0 : Nat) (x1 : Int32) (x2 : Int32) (x3 : Int32) (M : am_M), a_Clock_stretchEnd_0 rc r0 x1 x2 x3 M = some res → AW u_Clock_stretchEnd R_Clock_stretchEnd 0 0 29 [(0, .ref r0), (1, .int x1), (2, .int x2), (3, .int x3)] [] M (fun r M2 => r = .inl (some (.int res)) ∧ M2 = M) := by
  intro r0 x1 x2 x3 M h
  unfold a_Clock_stretchEnd_0 at h
  refine aw_iload_n d_Clock_stretchEnd_29 rfl rfl ?_
  refine aw_iload_n d_Clock_stretchEnd_30 rfl rfl ?_
  refine aw_iadd d_Clock_stretchEnd_31 ?_
  refine aw_iload_n d_Clock_stretchEnd_32 rfl rfl ?_
  refine aw_isub d_Clock_stretchEnd_33 ?_
  refine aw_istore (ls' := [(4, .int _), (0, .ref _), (1, .int _), (2, .int _), (3, .int _)]) d_Clock_stretchEnd_34 (Nat.le_of_ble_eq_true rfl) rfl ?_
  refine aw_iload_n d_Clock_stretchEnd_36 rfl rfl ?_
  refine aw_aload_n d_Clock_stretchEnd_37 rfl rfl ?_
  obtain ⟨t38, e_t38, h⟩ := q_bind h
  refine aw_gti d_Clock_stretchEnd_38 fl_Clock_15 (Or.inl rfl) e_t38 ?_
  refine aw_icmp_ge (tgt := 56) d_Clock_stretchEnd_41 (by decide) (fun hc => ?_) (fun hc => ?_)
  · rw [if_pos hc] at h
    refine aw_iload d_Clock_stretchEnd_56 rfl ?_
    cases h
    exact aw_ireturn d_Clock_stretchEnd_58 rfl (Nat.le_of_ble_eq_true rfl) (Nat.le_of_ble_eq_true rfl) ⟨rfl, rfl⟩
  · rw [if_neg hc] at h
    refine aw_iload d_Clock_stretchEnd_44 rfl ?_
    refine aw_aload_n d_Clock_stretchEnd_46 rfl rfl ?_
    obtain ⟨t47, e_t47, h⟩ := q_bind h
    refine aw_gti d_Clock_stretchEnd_47 fl_Clock_15 (Or.inl rfl) e_t47 ?_
    obtain ⟨t50, e_t50, h⟩ := q_bind h
    refine aw_cS (v := (some (.int t50))) (As := [.int ((x1 + x3) - x2), .int t47]) (rest := []) (st' := [.int t50]) d_Clock_stretchEnd_50 kS_Clock_37 ⟨Nat.le_of_ble_eq_true rfl, Nat.le_of_ble_eq_true rfl, Nat.le_of_ble_eq_true rfl, Nat.le_of_ble_eq_true rfl⟩ rfl rfl (Nat.le_of_ble_eq_true rfl) rfl (mt_Math_min e_t50) ?_
    refine aw_goto (tgt := 58) d_Clock_stretchEnd_53 (by decide) ?_
    cases h
    exact aw_ireturn d_Clock_stretchEnd_58 rfl (Nat.le_of_ble_eq_true rfl) (Nat.le_of_ble_eq_true rfl) ⟨rfl, rfl⟩
theorem l_Clock_stretchEnd {res : Int32} : ∀ F : Nat, (∀ (r0 : Nat) (x1 : Int32) (x2 : Int32) (x3 : Int32) (M : am_M), g_Clock_stretchEnd F 0 r0 x1 x2 x3 M = some res → AW u_Clock_stretchEnd R_Clock_stretchEnd 0 0 29 [(0, .ref r0), (1, .int x1), (2, .int x2), (3, .int x3)] [] M (fun r M2 => r = .inl (some (.int res)) ∧ M2 = M)) := by
  intro F
  induction F with
  | zero => exact fun _ _ _ _ _  h => (by cases h)
  | succ F ih =>
    have ih0 := ih
    exact s_Clock_stretchEnd_0 ih0
set_option maxHeartbeats 4000000 in
theorem mt_Clock_stretchEnd {M : am_M} {a0 : Nat} {a1 : Int32} {a2 : Int32} {res : Int32} (h : f_Clock_stretchEnd M a0 a1 a2 = some res) : AMet y_Clock_stretchEnd u_Clock_stretchEnd R_Clock_stretchEnd [.ref a0, .int a1, .int a2] M (fun r M2 => r = .inl (some (.int res)) ∧ M2 = M) := by
  refine am_met (by decide +kernel) w_Clock_stretchEnd rfl rfl (Nat.le_of_ble_eq_true rfl) ?_
  show AW u_Clock_stretchEnd R_Clock_stretchEnd 0 0 0 [(0, .ref a0), (1, .int a1), (2, .int a2)] [] M (fun r M2 => r = .inl (some (.int res)) ∧ M2 = M)
  have ih_0 := (l_Clock_stretchEnd (res := res) 1000000000)
  unfold f_Clock_stretchEnd at h
  unfold e_Clock_stretchEnd at h
  generalize g_Clock_stretchEnd 1000000000 = rc at h ih_0
  refine aw_sipush (v := 1800) d_Clock_stretchEnd_0 (by decide) ?_
  refine aw_istore_n (ls' := [(3, .int _), (0, .ref _), (1, .int _), (2, .int _)]) d_Clock_stretchEnd_3 rfl (Nat.le_of_ble_eq_true rfl) rfl ?_
  refine aw_iload_n d_Clock_stretchEnd_4 rfl rfl ?_
  refine aw_sipush (v := 360) d_Clock_stretchEnd_5 (by decide) ?_
  refine aw_icmp_ge (tgt := 18) d_Clock_stretchEnd_8 (by decide) (fun hc => ?_) (fun hc => ?_)
  · rw [if_pos hc] at h
    refine aw_iload_n d_Clock_stretchEnd_18 rfl rfl ?_
    refine aw_sipush (v := 1320) d_Clock_stretchEnd_19 (by decide) ?_
    refine aw_icmp_ge (tgt := 29) d_Clock_stretchEnd_22 (by decide) (fun hc => ?_) (fun hc => ?_)
    · rw [if_pos hc] at h
      exact aw_pick [1, 2, 3, 0] rfl (ih_0 _ _ _ _ _ h)
    · rw [if_neg hc] at h
      refine aw_sipush (v := 1320) d_Clock_stretchEnd_25 (by decide) ?_
      refine aw_istore_n (ls' := [(3, .int _), (0, .ref _), (1, .int _), (2, .int _)]) d_Clock_stretchEnd_28 rfl (Nat.le_of_ble_eq_true rfl) rfl ?_
      exact aw_pick [1, 2, 3, 0] rfl (ih_0 _ _ _ _ _ h)
  · rw [if_neg hc] at h
    refine aw_sipush (v := 360) d_Clock_stretchEnd_11 (by decide) ?_
    refine aw_istore_n (ls' := [(3, .int _), (0, .ref _), (1, .int _), (2, .int _)]) d_Clock_stretchEnd_14 rfl (Nat.le_of_ble_eq_true rfl) rfl ?_
    refine aw_goto (tgt := 29) d_Clock_stretchEnd_15 (by decide) ?_
    exact aw_pick [1, 2, 3, 0] rfl (ih_0 _ _ _ _ _ h)
def y_Listing_canBeNext : MethodName := ⟨"CrewOffice$Listing", "canBeNext", "(II)Z"⟩
def u_Listing_canBeNext : am_U := ("CrewOffice$Listing", "canBeNext", prog_5_method_5_code, 3, (some .boolean), [])
def R_Listing_canBeNext : Room := { frames := 1, cells := 0, slots := 0, locals := 23 }
theorem d_Listing_canBeNext_0 : decode u_Listing_canBeNext.2.2.1 0 = .ok (.aload_n 0, 1) := by decide +kernel
theorem d_Listing_canBeNext_1 : decode u_Listing_canBeNext.2.2.1 1 = .ok (.getfield 21, 3) := by decide +kernel
theorem d_Listing_canBeNext_4 : decode u_Listing_canBeNext.2.2.1 4 = .ok (.getfield 65, 3) := by decide +kernel
theorem d_Listing_canBeNext_7 : decode u_Listing_canBeNext.2.2.1 7 = .ok (.iload_n 2, 1) := by decide +kernel
theorem d_Listing_canBeNext_8 : decode u_Listing_canBeNext.2.2.1 8 = .ok (.aaload, 1) := by decide +kernel
theorem d_Listing_canBeNext_9 : decode u_Listing_canBeNext.2.2.1 9 = .ok (.getfield 71, 3) := by decide +kernel
theorem d_Listing_canBeNext_12 : decode u_Listing_canBeNext.2.2.1 12 = .ok (.ifCond .ne 5, 3) := by decide +kernel
theorem d_Listing_canBeNext_15 : decode u_Listing_canBeNext.2.2.1 15 = .ok (.iconst 0, 1) := by decide +kernel
theorem d_Listing_canBeNext_16 : decode u_Listing_canBeNext.2.2.1 16 = .ok (.ireturn, 1) := by decide +kernel
theorem d_Listing_canBeNext_17 : decode u_Listing_canBeNext.2.2.1 17 = .ok (.iload_n 1, 1) := by decide +kernel
theorem d_Listing_canBeNext_18 : decode u_Listing_canBeNext.2.2.1 18 = .ok (.ifCond .ne 26, 3) := by decide +kernel
theorem d_Listing_canBeNext_21 : decode u_Listing_canBeNext.2.2.1 21 = .ok (.aload_n 0, 1) := by decide +kernel
theorem d_Listing_canBeNext_22 : decode u_Listing_canBeNext.2.2.1 22 = .ok (.getfield 21, 3) := by decide +kernel
theorem d_Listing_canBeNext_25 : decode u_Listing_canBeNext.2.2.1 25 = .ok (.iconst (-1), 1) := by decide +kernel
theorem d_Listing_canBeNext_26 : decode u_Listing_canBeNext.2.2.1 26 = .ok (.aload_n 0, 1) := by decide +kernel
theorem d_Listing_canBeNext_27 : decode u_Listing_canBeNext.2.2.1 27 = .ok (.getfield 21, 3) := by decide +kernel
theorem d_Listing_canBeNext_30 : decode u_Listing_canBeNext.2.2.1 30 = .ok (.getfield 65, 3) := by decide +kernel
theorem d_Listing_canBeNext_33 : decode u_Listing_canBeNext.2.2.1 33 = .ok (.iload_n 2, 1) := by decide +kernel
theorem d_Listing_canBeNext_34 : decode u_Listing_canBeNext.2.2.1 34 = .ok (.aaload, 1) := by decide +kernel
theorem d_Listing_canBeNext_35 : decode u_Listing_canBeNext.2.2.1 35 = .ok (.getfield 76, 3) := by decide +kernel
theorem d_Listing_canBeNext_38 : decode u_Listing_canBeNext.2.2.1 38 = .ok (.invokevirtual 79, 3) := by decide +kernel
theorem d_Listing_canBeNext_41 : decode u_Listing_canBeNext.2.2.1 41 = .ok (.goto 25, 3) := by decide +kernel
theorem d_Listing_canBeNext_44 : decode u_Listing_canBeNext.2.2.1 44 = .ok (.aload_n 0, 1) := by decide +kernel
theorem d_Listing_canBeNext_45 : decode u_Listing_canBeNext.2.2.1 45 = .ok (.getfield 21, 3) := by decide +kernel
theorem d_Listing_canBeNext_48 : decode u_Listing_canBeNext.2.2.1 48 = .ok (.aload_n 0, 1) := by decide +kernel
theorem d_Listing_canBeNext_49 : decode u_Listing_canBeNext.2.2.1 49 = .ok (.getfield 30, 3) := by decide +kernel
theorem d_Listing_canBeNext_52 : decode u_Listing_canBeNext.2.2.1 52 = .ok (.getfield 82, 3) := by decide +kernel
theorem d_Listing_canBeNext_55 : decode u_Listing_canBeNext.2.2.1 55 = .ok (.getfield 86, 3) := by decide +kernel
theorem d_Listing_canBeNext_58 : decode u_Listing_canBeNext.2.2.1 58 = .ok (.iload_n 1, 1) := by decide +kernel
theorem d_Listing_canBeNext_59 : decode u_Listing_canBeNext.2.2.1 59 = .ok (.iconst 1, 1) := by decide +kernel
theorem d_Listing_canBeNext_60 : decode u_Listing_canBeNext.2.2.1 60 = .ok (.isub, 1) := by decide +kernel
theorem d_Listing_canBeNext_61 : decode u_Listing_canBeNext.2.2.1 61 = .ok (.iaload, 1) := by decide +kernel
theorem d_Listing_canBeNext_62 : decode u_Listing_canBeNext.2.2.1 62 = .ok (.iload_n 2, 1) := by decide +kernel
theorem d_Listing_canBeNext_63 : decode u_Listing_canBeNext.2.2.1 63 = .ok (.invokevirtual 90, 3) := by decide +kernel
theorem d_Listing_canBeNext_66 : decode u_Listing_canBeNext.2.2.1 66 = .ok (.ireturn, 1) := by decide +kernel
theorem w_Listing_canBeNext : am_code y_Listing_canBeNext u_Listing_canBeNext ∈ am_ws := am_mem (List.mem_of_getElem? (i := 481) (by decide +kernel)) rfl
def e_Listing_canBeNext (M : am_M) (a0 : Nat) (a1 : Int32) (a2 : Int32) : Option (Int32) := (q_gtr M a0 6 0).bind (fun t1 => (q_gtr M t1 3 1).bind (fun t4 => (q_ldr M t4 a2).bind (fun t8 => (q_gti M t8 1 0).bind (fun t9 => if t9 = 0 then (some (0 : Int32)) else (if a1 = 0 then ((q_gtr M a0 6 0).bind (fun t22 => (q_gtr M a0 6 0).bind (fun t27 => (q_gtr M t27 3 1).bind (fun t30 => (q_ldr M t30 a2).bind (fun t34 => (q_gti M t34 1 1).bind (fun t35 => (q_ob M t22 3).bind (fun o38 => (f_Plan_isBase M t22 (-1 : Int32) t35).bind (fun t38 => (q_z t38).bind (fun z66 => some z66))))))))) else ((q_gtr M a0 6 0).bind (fun t45 => (q_gtr M a0 6 1).bind (fun t49 => (q_gtr M t49 5 1).bind (fun t52 => (q_gtr M t52 4 0).bind (fun t55 => (q_ldi M t55 (a1 - (1 : Int32))).bind (fun t61 => (q_ob M t45 3).bind (fun o63 => (f_Plan_canFollow M t45 t61 a2).bind (fun t63 => (q_z t63).bind (fun z66 => some z66))))))))))))))
def f_Listing_canBeNext (M : am_M) (a0 : Nat) (a1 : Int32) (a2 : Int32) : Option (Int32) := e_Listing_canBeNext M a0 a1 a2
theorem fl_Listing_21 : am_fl "CrewOffice$Listing" 21 6 0 := ⟨by decide, by decide, List.mem_of_getElem? (i := 344) (by decide +kernel)⟩
theorem fl_Listing_30 : am_fl "CrewOffice$Listing" 30 6 1 := ⟨by decide, by decide, List.mem_of_getElem? (i := 345) (by decide +kernel)⟩
theorem fl_Listing_65 : am_fl "CrewOffice$Listing" 65 3 1 := ⟨by decide, by decide, List.mem_of_getElem? (i := 223) (by decide +kernel)⟩
theorem fl_Listing_71 : am_fl "CrewOffice$Listing" 71 1 0 := ⟨by decide, by decide, List.mem_of_getElem? (i := 131) (by decide +kernel)⟩
theorem fl_Listing_76 : am_fl "CrewOffice$Listing" 76 1 1 := ⟨by decide, by decide, List.mem_of_getElem? (i := 134) (by decide +kernel)⟩
theorem fl_Listing_82 : am_fl "CrewOffice$Listing" 82 5 1 := ⟨by decide, by decide, List.mem_of_getElem? (i := 313) (by decide +kernel)⟩
theorem fl_Listing_86 : am_fl "CrewOffice$Listing" 86 4 0 := ⟨by decide, by decide, List.mem_of_getElem? (i := 262) (by decide +kernel)⟩
theorem kV_Listing_79 : am_kV "CrewOffice$Listing" 79 3 y_Plan_isBase u_Plan_isBase 2 := ⟨List.mem_of_getElem? (i := 482) (by decide +kernel), ⟨List.mem_of_getElem? (i := 483) (by decide +kernel), List.mem_of_getElem? (i := 484) (by decide +kernel)⟩, List.mem_of_getElem? (i := 55) (by decide +kernel), w_Plan_isBase, ⟨⟨by decide +kernel, by decide +kernel⟩, by decide +kernel⟩⟩
theorem kV_Listing_90 : am_kV "CrewOffice$Listing" 90 3 y_Plan_canFollow u_Plan_canFollow 2 := ⟨List.mem_of_getElem? (i := 486) (by decide +kernel), ⟨List.mem_of_getElem? (i := 487) (by decide +kernel), List.mem_of_getElem? (i := 488) (by decide +kernel)⟩, List.mem_of_getElem? (i := 55) (by decide +kernel), w_Plan_canFollow, ⟨⟨by decide +kernel, by decide +kernel⟩, by decide +kernel⟩⟩
set_option maxHeartbeats 4000000 in
theorem mt_Listing_canBeNext {M : am_M} {a0 : Nat} {a1 : Int32} {a2 : Int32} {res : Int32} (h : f_Listing_canBeNext M a0 a1 a2 = some res) : AMet y_Listing_canBeNext u_Listing_canBeNext R_Listing_canBeNext [.ref a0, .int a1, .int a2] M (fun r M2 => r = .inl (some (.int res)) ∧ M2 = M) := by
  refine am_met (by decide +kernel) w_Listing_canBeNext rfl rfl (Nat.le_of_ble_eq_true rfl) ?_
  show AW u_Listing_canBeNext R_Listing_canBeNext 0 0 0 [(0, .ref a0), (1, .int a1), (2, .int a2)] [] M (fun r M2 => r = .inl (some (.int res)) ∧ M2 = M)
  unfold f_Listing_canBeNext at h
  unfold e_Listing_canBeNext at h
  refine aw_aload_n d_Listing_canBeNext_0 rfl rfl ?_
  obtain ⟨t1, e_t1, h⟩ := q_bind h
  refine aw_gtr d_Listing_canBeNext_1 fl_Listing_21 (Or.inl ⟨_, rfl⟩) e_t1 ?_
  obtain ⟨t4, e_t4, h⟩ := q_bind h
  refine aw_gtr d_Listing_canBeNext_4 fl_Listing_65 (Or.inr ⟨_, rfl⟩) e_t4 ?_
  refine aw_iload_n d_Listing_canBeNext_7 rfl rfl ?_
  obtain ⟨t8, e_t8, h⟩ := q_bind h
  refine aw_ldr d_Listing_canBeNext_8 e_t8 ?_
  obtain ⟨t9, e_t9, h⟩ := q_bind h
  refine aw_gti d_Listing_canBeNext_9 fl_Listing_71 (Or.inr rfl) e_t9 ?_
  refine aw_if_ne (tgt := 17) d_Listing_canBeNext_12 (by decide) (fun hc => ?_) (fun hc => ?_)
  · rw [if_neg hc] at h
    refine aw_iload_n d_Listing_canBeNext_17 rfl rfl ?_
    refine aw_if_ne (tgt := 44) d_Listing_canBeNext_18 (by decide) (fun hc => ?_) (fun hc => ?_)
    · rw [if_neg hc] at h
      refine aw_aload_n d_Listing_canBeNext_44 rfl rfl ?_
      obtain ⟨t45, e_t45, h⟩ := q_bind h
      refine aw_gtr d_Listing_canBeNext_45 fl_Listing_21 (Or.inl ⟨_, rfl⟩) e_t45 ?_
      refine aw_aload_n d_Listing_canBeNext_48 rfl rfl ?_
      obtain ⟨t49, e_t49, h⟩ := q_bind h
      refine aw_gtr d_Listing_canBeNext_49 fl_Listing_30 (Or.inl ⟨_, rfl⟩) e_t49 ?_
      obtain ⟨t52, e_t52, h⟩ := q_bind h
      refine aw_gtr d_Listing_canBeNext_52 fl_Listing_82 (Or.inl ⟨_, rfl⟩) e_t52 ?_
      obtain ⟨t55, e_t55, h⟩ := q_bind h
      refine aw_gtr d_Listing_canBeNext_55 fl_Listing_86 (Or.inr ⟨_, rfl⟩) e_t55 ?_
      refine aw_iload_n d_Listing_canBeNext_58 rfl rfl ?_
      refine aw_iconst (v := 1) d_Listing_canBeNext_59 (by decide) ?_
      refine aw_isub d_Listing_canBeNext_60 ?_
      obtain ⟨t61, e_t61, h⟩ := q_bind h
      refine aw_ldi d_Listing_canBeNext_61 e_t61 ?_
      refine aw_iload_n d_Listing_canBeNext_62 rfl rfl ?_
      obtain ⟨o63, e_o63, h⟩ := q_bind h
      obtain ⟨t63, e_t63, h⟩ := q_bind h
      refine aw_cV (v := (some (.int t63))) (As := [.int t61, .int a2]) (rest := []) (st' := [.int t63]) d_Listing_canBeNext_63 kV_Listing_90 (q_ob_spec e_o63).1 (q_ob_spec e_o63).2 ⟨Nat.le_of_ble_eq_true rfl, Nat.le_of_ble_eq_true rfl, Nat.le_of_ble_eq_true rfl, Nat.le_of_ble_eq_true rfl⟩ rfl rfl (Nat.le_of_ble_eq_true rfl) rfl (mt_Plan_canFollow e_t63) ?_
      obtain ⟨z66, e_z66, h⟩ := q_bind h
      obtain ⟨hz, hn⟩ := q_z_spec e_z66
      cases h
      rw [hz]
      exact aw_zreturn d_Listing_canBeNext_66 rfl hn (Nat.le_of_ble_eq_true rfl) (Nat.le_of_ble_eq_true rfl) ⟨rfl, rfl⟩
    · rw [if_pos hc] at h
      refine aw_aload_n d_Listing_canBeNext_21 rfl rfl ?_
      obtain ⟨t22, e_t22, h⟩ := q_bind h
      refine aw_gtr d_Listing_canBeNext_22 fl_Listing_21 (Or.inl ⟨_, rfl⟩) e_t22 ?_
      refine aw_iconst (v := -1) d_Listing_canBeNext_25 (by decide) ?_
      refine aw_aload_n d_Listing_canBeNext_26 rfl rfl ?_
      obtain ⟨t27, e_t27, h⟩ := q_bind h
      refine aw_gtr d_Listing_canBeNext_27 fl_Listing_21 (Or.inl ⟨_, rfl⟩) e_t27 ?_
      obtain ⟨t30, e_t30, h⟩ := q_bind h
      refine aw_gtr d_Listing_canBeNext_30 fl_Listing_65 (Or.inr ⟨_, rfl⟩) e_t30 ?_
      refine aw_iload_n d_Listing_canBeNext_33 rfl rfl ?_
      obtain ⟨t34, e_t34, h⟩ := q_bind h
      refine aw_ldr d_Listing_canBeNext_34 e_t34 ?_
      obtain ⟨t35, e_t35, h⟩ := q_bind h
      refine aw_gti d_Listing_canBeNext_35 fl_Listing_76 (Or.inl rfl) e_t35 ?_
      obtain ⟨o38, e_o38, h⟩ := q_bind h
      obtain ⟨t38, e_t38, h⟩ := q_bind h
      refine aw_cV (v := (some (.int t38))) (As := [.int (-1 : Int32), .int t35]) (rest := []) (st' := [.int t38]) d_Listing_canBeNext_38 kV_Listing_79 (q_ob_spec e_o38).1 (q_ob_spec e_o38).2 ⟨Nat.le_of_ble_eq_true rfl, Nat.le_of_ble_eq_true rfl, Nat.le_of_ble_eq_true rfl, Nat.le_of_ble_eq_true rfl⟩ rfl rfl (Nat.le_of_ble_eq_true rfl) rfl (mt_Plan_isBase e_t38) ?_
      refine aw_goto (tgt := 66) d_Listing_canBeNext_41 (by decide) ?_
      obtain ⟨z66, e_z66, h⟩ := q_bind h
      obtain ⟨hz, hn⟩ := q_z_spec e_z66
      cases h
      rw [hz]
      exact aw_zreturn d_Listing_canBeNext_66 rfl hn (Nat.le_of_ble_eq_true rfl) (Nat.le_of_ble_eq_true rfl) ⟨rfl, rfl⟩
  · rw [if_pos hc] at h
    refine aw_iconst (v := 0) d_Listing_canBeNext_15 (by decide) ?_
    cases h
    exact aw_zreturn d_Listing_canBeNext_16 rfl (by decide) (Nat.le_of_ble_eq_true rfl) (Nat.le_of_ble_eq_true rfl) ⟨rfl, rfl⟩
def y_Listing_addDraft : MethodName := ⟨"CrewOffice$Listing", "addDraft", "()V"⟩
def u_Listing_addDraft : am_U := ("CrewOffice$Listing", "addDraft", prog_5_method_7_code, 1, none, [])
def R_Listing_addDraft : Room := { frames := 2, cells := 0, slots := 0, locals := 60 }
theorem d_Listing_addDraft_0 : decode u_Listing_addDraft.2.2.1 0 = .ok (.aload_n 0, 1) := by decide +kernel
theorem d_Listing_addDraft_1 : decode u_Listing_addDraft.2.2.1 1 = .ok (.getfield 17, 3) := by decide +kernel
theorem d_Listing_addDraft_4 : decode u_Listing_addDraft.2.2.1 4 = .ok (.bipush 40, 2) := by decide +kernel
theorem d_Listing_addDraft_6 : decode u_Listing_addDraft.2.2.1 6 = .ok (.if_icmp .ge 35, 3) := by decide +kernel
theorem d_Listing_addDraft_9 : decode u_Listing_addDraft.2.2.1 9 = .ok (.aload_n 0, 1) := by decide +kernel
theorem d_Listing_addDraft_10 : decode u_Listing_addDraft.2.2.1 10 = .ok (.getfield 11, 3) := by decide +kernel
theorem d_Listing_addDraft_13 : decode u_Listing_addDraft.2.2.1 13 = .ok (.aload_n 0, 1) := by decide +kernel
theorem d_Listing_addDraft_14 : decode u_Listing_addDraft.2.2.1 14 = .ok (.getfield 17, 3) := by decide +kernel
theorem d_Listing_addDraft_17 : decode u_Listing_addDraft.2.2.1 17 = .ok (.aaload, 1) := by decide +kernel
theorem d_Listing_addDraft_18 : decode u_Listing_addDraft.2.2.1 18 = .ok (.aload_n 0, 1) := by decide +kernel
theorem d_Listing_addDraft_19 : decode u_Listing_addDraft.2.2.1 19 = .ok (.getfield 30, 3) := by decide +kernel
theorem d_Listing_addDraft_22 : decode u_Listing_addDraft.2.2.1 22 = .ok (.getfield 82, 3) := by decide +kernel
theorem d_Listing_addDraft_25 : decode u_Listing_addDraft.2.2.1 25 = .ok (.invokevirtual 93, 3) := by decide +kernel
theorem d_Listing_addDraft_28 : decode u_Listing_addDraft.2.2.1 28 = .ok (.aload_n 0, 1) := by decide +kernel
theorem d_Listing_addDraft_29 : decode u_Listing_addDraft.2.2.1 29 = .ok (.dup, 1) := by decide +kernel
theorem d_Listing_addDraft_30 : decode u_Listing_addDraft.2.2.1 30 = .ok (.getfield 17, 3) := by decide +kernel
theorem d_Listing_addDraft_33 : decode u_Listing_addDraft.2.2.1 33 = .ok (.iconst 1, 1) := by decide +kernel
theorem d_Listing_addDraft_34 : decode u_Listing_addDraft.2.2.1 34 = .ok (.iadd, 1) := by decide +kernel
theorem d_Listing_addDraft_35 : decode u_Listing_addDraft.2.2.1 35 = .ok (.putfield 17, 3) := by decide +kernel
theorem d_Listing_addDraft_38 : decode u_Listing_addDraft.2.2.1 38 = .ok (.goto 8, 3) := by decide +kernel
theorem d_Listing_addDraft_41 : decode u_Listing_addDraft.2.2.1 41 = .ok (.aload_n 0, 1) := by decide +kernel
theorem d_Listing_addDraft_42 : decode u_Listing_addDraft.2.2.1 42 = .ok (.iconst 1, 1) := by decide +kernel
theorem d_Listing_addDraft_43 : decode u_Listing_addDraft.2.2.1 43 = .ok (.putfield 35, 3) := by decide +kernel
theorem d_Listing_addDraft_46 : decode u_Listing_addDraft.2.2.1 46 = .ok (.return_, 1) := by decide +kernel
theorem w_Listing_addDraft : am_code y_Listing_addDraft u_Listing_addDraft ∈ am_ws := am_mem (List.mem_of_getElem? (i := 581) (by decide +kernel)) rfl
def e_Listing_addDraft (M : am_M) (a0 : Nat) : Option (Unit × am_M) := (q_gti M a0 6 3).bind (fun t1 => if (40 : Int32) ≤ t1 then ((q_ptz M a0 6 4 (1 : Int32)).bind (fun M43 => some ((), M43))) else ((q_gtr M a0 6 2).bind (fun t10 => (q_gti M a0 6 3).bind (fun t14 => (q_ldr M t10 t14).bind (fun t17 => (q_gtr M a0 6 1).bind (fun t19 => (q_gtr M t19 5 1).bind (fun t22 => (q_ob M t17 4).bind (fun o25 => (f_Work_copy M t17 t22).bind (fun p25 => (q_gti p25.2 a0 6 3).bind (fun t30 => (q_pti p25.2 a0 6 3 (t30 + (1 : Int32))).bind (fun M35 => some ((), M35))))))))))))
def f_Listing_addDraft (M : am_M) (a0 : Nat) : Option (Unit × am_M) := e_Listing_addDraft M a0
theorem fl_Listing_11 : am_fl "CrewOffice$Listing" 11 6 2 := ⟨by decide, by decide, List.mem_of_getElem? (i := 346) (by decide +kernel)⟩
theorem fl_Listing_35 : am_fl "CrewOffice$Listing" 35 6 4 := ⟨by decide, by decide, List.mem_of_getElem? (i := 353) (by decide +kernel)⟩
theorem kV_Listing_93 : am_kV "CrewOffice$Listing" 93 4 y_Work_copy u_Work_copy 1 := ⟨List.mem_of_getElem? (i := 582) (by decide +kernel), ⟨List.mem_of_getElem? (i := 583) (by decide +kernel), List.mem_of_getElem? (i := 584) (by decide +kernel)⟩, List.mem_of_getElem? (i := 61) (by decide +kernel), w_Work_copy, ⟨⟨by decide +kernel, by decide +kernel⟩, by decide +kernel⟩⟩
set_option maxHeartbeats 4000000 in
theorem mt_Listing_addDraft {M : am_M} {a0 : Nat} {res : Unit} {M' : am_M} (h : f_Listing_addDraft M a0 = some (res, M')) : AMet y_Listing_addDraft u_Listing_addDraft R_Listing_addDraft [.ref a0] M (fun r M2 => r = .inl none ∧ M2 = M') := by
  refine am_met (by decide +kernel) w_Listing_addDraft rfl rfl (Nat.le_of_ble_eq_true rfl) ?_
  show AW u_Listing_addDraft R_Listing_addDraft 0 0 0 [(0, .ref a0)] [] M (fun r M2 => r = .inl none ∧ M2 = M')
  unfold f_Listing_addDraft at h
  unfold e_Listing_addDraft at h
  refine aw_aload_n d_Listing_addDraft_0 rfl rfl ?_
  obtain ⟨t1, e_t1, h⟩ := q_bind h
  refine aw_gti d_Listing_addDraft_1 fl_Listing_17 (Or.inl rfl) e_t1 ?_
  refine aw_bipush (v := 40) d_Listing_addDraft_4 (by decide) ?_
  refine aw_icmp_ge (tgt := 41) d_Listing_addDraft_6 (by decide) (fun hc => ?_) (fun hc => ?_)
  · rw [if_pos hc] at h
    refine aw_aload_n d_Listing_addDraft_41 rfl rfl ?_
    refine aw_iconst (v := 1) d_Listing_addDraft_42 (by decide) ?_
    obtain ⟨M43, e_M43, h⟩ := q_bind h
    refine aw_ptz d_Listing_addDraft_43 fl_Listing_35 rfl rfl e_M43 ?_
    cases h
    exact aw_vreturn d_Listing_addDraft_46 rfl (Nat.le_of_ble_eq_true rfl) (Nat.le_of_ble_eq_true rfl) ⟨rfl, rfl⟩
  · rw [if_neg hc] at h
    refine aw_aload_n d_Listing_addDraft_9 rfl rfl ?_
    obtain ⟨t10, e_t10, h⟩ := q_bind h
    refine aw_gtr d_Listing_addDraft_10 fl_Listing_11 (Or.inr ⟨_, rfl⟩) e_t10 ?_
    refine aw_aload_n d_Listing_addDraft_13 rfl rfl ?_
    obtain ⟨t14, e_t14, h⟩ := q_bind h
    refine aw_gti d_Listing_addDraft_14 fl_Listing_17 (Or.inl rfl) e_t14 ?_
    obtain ⟨t17, e_t17, h⟩ := q_bind h
    refine aw_ldr d_Listing_addDraft_17 e_t17 ?_
    refine aw_aload_n d_Listing_addDraft_18 rfl rfl ?_
    obtain ⟨t19, e_t19, h⟩ := q_bind h
    refine aw_gtr d_Listing_addDraft_19 fl_Listing_30 (Or.inl ⟨_, rfl⟩) e_t19 ?_
    obtain ⟨t22, e_t22, h⟩ := q_bind h
    refine aw_gtr d_Listing_addDraft_22 fl_Listing_82 (Or.inl ⟨_, rfl⟩) e_t22 ?_
    obtain ⟨o25, e_o25, h⟩ := q_bind h
    obtain ⟨⟨t25, M25⟩, e_t25, h⟩ := q_bind h
    dsimp only at h
    refine aw_cV (v := none) (As := [.ref t22]) (rest := []) (st' := []) d_Listing_addDraft_25 kV_Listing_93 (q_ob_spec e_o25).1 (q_ob_spec e_o25).2 ⟨Nat.le_of_ble_eq_true rfl, Nat.le_of_ble_eq_true rfl, Nat.le_of_ble_eq_true rfl, Nat.le_of_ble_eq_true rfl⟩ rfl rfl (Nat.le_of_ble_eq_true rfl) rfl (mt_Work_copy e_t25) ?_
    refine aw_aload_n d_Listing_addDraft_28 rfl rfl ?_
    refine aw_dup d_Listing_addDraft_29 rfl ?_
    obtain ⟨t30, e_t30, h⟩ := q_bind h
    refine aw_gti d_Listing_addDraft_30 fl_Listing_17 (Or.inl rfl) e_t30 ?_
    refine aw_iconst (v := 1) d_Listing_addDraft_33 (by decide) ?_
    refine aw_iadd d_Listing_addDraft_34 ?_
    obtain ⟨M35, e_M35, h⟩ := q_bind h
    refine aw_pti d_Listing_addDraft_35 fl_Listing_17 rfl rfl e_M35 ?_
    refine aw_goto (tgt := 46) d_Listing_addDraft_38 (by decide) ?_
    cases h
    exact aw_vreturn d_Listing_addDraft_46 rfl (Nat.le_of_ble_eq_true rfl) (Nat.le_of_ble_eq_true rfl) ⟨rfl, rfl⟩
def y_Sharing_forget : MethodName := ⟨"CrewOffice$Sharing", "forget", "()V"⟩
def u_Sharing_forget : am_U := ("CrewOffice$Sharing", "forget", prog_8_method_2_code, 1, none, [])
def R_Sharing_forget : Room := { frames := 1, cells := 0, slots := 0, locals := 23 }
theorem d_Sharing_forget_0 : decode u_Sharing_forget.2.2.1 0 = .ok (.aload_n 0, 1) := by decide +kernel
theorem d_Sharing_forget_1 : decode u_Sharing_forget.2.2.1 1 = .ok (.getfield 9, 3) := by decide +kernel
theorem d_Sharing_forget_4 : decode u_Sharing_forget.2.2.1 4 = .ok (.iconst 0, 1) := by decide +kernel
theorem d_Sharing_forget_5 : decode u_Sharing_forget.2.2.1 5 = .ok (.invokestatic 39, 3) := by decide +kernel
theorem d_Sharing_forget_8 : decode u_Sharing_forget.2.2.1 8 = .ok (.return_, 1) := by decide +kernel
theorem w_Sharing_forget : am_code y_Sharing_forget u_Sharing_forget ∈ am_ws := am_mem (List.mem_of_getElem? (i := 468) (by decide +kernel)) rfl
def e_Sharing_forget (M : am_M) (a0 : Nat) : Option (Unit × am_M) := (q_gtr M a0 8 3).bind (fun t1 => (f_Arrays_fill M t1 (0 : Int32)).bind (fun p5 => some ((), p5.2)))
def f_Sharing_forget (M : am_M) (a0 : Nat) : Option (Unit × am_M) := e_Sharing_forget M a0
theorem kS_Sharing_39 : am_kS "CrewOffice$Sharing" 39 y_Arrays_fill u_Arrays_fill 2 := ⟨List.mem_of_getElem? (i := 469) (by decide +kernel), List.mem_of_getElem? (i := 215) (by decide +kernel), List.mem_of_getElem? (i := 59) (by decide +kernel), w_Arrays_fill, ⟨⟨by decide +kernel, by decide +kernel⟩, by decide +kernel⟩⟩
set_option maxHeartbeats 4000000 in
theorem mt_Sharing_forget {M : am_M} {a0 : Nat} {res : Unit} {M' : am_M} (h : f_Sharing_forget M a0 = some (res, M')) : AMet y_Sharing_forget u_Sharing_forget R_Sharing_forget [.ref a0] M (fun r M2 => r = .inl none ∧ M2 = M') := by
  refine am_met (by decide +kernel) w_Sharing_forget rfl rfl (Nat.le_of_ble_eq_true rfl) ?_
  show AW u_Sharing_forget R_Sharing_forget 0 0 0 [(0, .ref a0)] [] M (fun r M2 => r = .inl none ∧ M2 = M')
  unfold f_Sharing_forget at h
  unfold e_Sharing_forget at h
  refine aw_aload_n d_Sharing_forget_0 rfl rfl ?_
  obtain ⟨t1, e_t1, h⟩ := q_bind h
  refine aw_gtr d_Sharing_forget_1 fl_Sharing_9 (Or.inr ⟨_, rfl⟩) e_t1 ?_
  refine aw_iconst (v := 0) d_Sharing_forget_4 (by decide) ?_
  obtain ⟨⟨t5, M5⟩, e_t5, h⟩ := q_bind h
  dsimp only at h
  refine aw_cS (v := none) (As := [.ref t1, .int (0 : Int32)]) (rest := []) (st' := []) d_Sharing_forget_5 kS_Sharing_39 ⟨Nat.le_of_ble_eq_true rfl, Nat.le_of_ble_eq_true rfl, Nat.le_of_ble_eq_true rfl, Nat.le_of_ble_eq_true rfl⟩ rfl rfl (Nat.le_of_ble_eq_true rfl) rfl (mt_Arrays_fill e_t5) ?_
  cases h
  exact aw_vreturn d_Sharing_forget_8 rfl (Nat.le_of_ble_eq_true rfl) (Nat.le_of_ble_eq_true rfl) ⟨rfl, rfl⟩
def y_Sharing_countShared : MethodName := ⟨"CrewOffice$Sharing", "countShared", "()I"⟩
def u_Sharing_countShared : am_U := ("CrewOffice$Sharing", "countShared", prog_8_method_6_code, 3, (some .int), [])
def R_Sharing_countShared : Room := { frames := 1, cells := 0, slots := 0, locals := 20 }
theorem d_Sharing_countShared_0 : decode u_Sharing_countShared.2.2.1 0 = .ok (.iconst 0, 1) := by decide +kernel
theorem d_Sharing_countShared_1 : decode u_Sharing_countShared.2.2.1 1 = .ok (.istore_n 1, 1) := by decide +kernel
theorem d_Sharing_countShared_2 : decode u_Sharing_countShared.2.2.1 2 = .ok (.iconst 0, 1) := by decide +kernel
theorem d_Sharing_countShared_3 : decode u_Sharing_countShared.2.2.1 3 = .ok (.istore_n 2, 1) := by decide +kernel
theorem d_Sharing_countShared_4 : decode u_Sharing_countShared.2.2.1 4 = .ok (.iload_n 2, 1) := by decide +kernel
theorem d_Sharing_countShared_5 : decode u_Sharing_countShared.2.2.1 5 = .ok (.iconst 4, 1) := by decide +kernel
theorem d_Sharing_countShared_6 : decode u_Sharing_countShared.2.2.1 6 = .ok (.if_icmp .ge 21, 3) := by decide +kernel
theorem d_Sharing_countShared_9 : decode u_Sharing_countShared.2.2.1 9 = .ok (.iload_n 1, 1) := by decide +kernel
theorem d_Sharing_countShared_10 : decode u_Sharing_countShared.2.2.1 10 = .ok (.aload_n 0, 1) := by decide +kernel
theorem d_Sharing_countShared_11 : decode u_Sharing_countShared.2.2.1 11 = .ok (.getfield 9, 3) := by decide +kernel
theorem d_Sharing_countShared_14 : decode u_Sharing_countShared.2.2.1 14 = .ok (.iload_n 2, 1) := by decide +kernel
theorem d_Sharing_countShared_15 : decode u_Sharing_countShared.2.2.1 15 = .ok (.iaload, 1) := by decide +kernel
theorem d_Sharing_countShared_16 : decode u_Sharing_countShared.2.2.1 16 = .ok (.invokestatic 60, 3) := by decide +kernel
theorem d_Sharing_countShared_19 : decode u_Sharing_countShared.2.2.1 19 = .ok (.iadd, 1) := by decide +kernel
theorem d_Sharing_countShared_20 : decode u_Sharing_countShared.2.2.1 20 = .ok (.istore_n 1, 1) := by decide +kernel
theorem d_Sharing_countShared_21 : decode u_Sharing_countShared.2.2.1 21 = .ok (.iinc 2 1, 3) := by decide +kernel
theorem d_Sharing_countShared_24 : decode u_Sharing_countShared.2.2.1 24 = .ok (.goto (-20), 3) := by decide +kernel
theorem d_Sharing_countShared_27 : decode u_Sharing_countShared.2.2.1 27 = .ok (.iload_n 1, 1) := by decide +kernel
theorem d_Sharing_countShared_28 : decode u_Sharing_countShared.2.2.1 28 = .ok (.ireturn, 1) := by decide +kernel
theorem w_Sharing_countShared : am_code y_Sharing_countShared u_Sharing_countShared ∈ am_ws := am_mem (List.mem_of_getElem? (i := 997) (by decide +kernel)) rfl
def a_Sharing_countShared_0 (rc : Nat → Nat → Int32 → Int32 → am_M → Option (Int32)) (r0 : Nat) (x1 : Int32) (x2 : Int32) (M : am_M) : Option (Int32) := if (4 : Int32) ≤ x2 then (some x1) else ((q_gtr M r0 8 3).bind (fun t11 => (q_ldi M t11 x2).bind (fun t15 => (f_Integer_bitCount M t15).bind (fun t16 => rc 0 r0 (x1 + t16) (x2 + (1 : Int32)) M))))
def g_Sharing_countShared : Nat → Nat → Nat → Int32 → Int32 → am_M → Option (Int32)
  | 0, _, _, _, _, _ => none
  | F + 1, 0, r0, x1, x2, M => a_Sharing_countShared_0 (g_Sharing_countShared F) r0 x1 x2 M
  | _ + 1, _ + 1, _, _, _, _ => none
def e_Sharing_countShared (rc : Nat → Nat → Int32 → Int32 → am_M → Option (Int32)) (M : am_M) (a0 : Nat) : Option (Int32) := rc 0 a0 (0 : Int32) (0 : Int32) M
def f_Sharing_countShared (M : am_M) (a0 : Nat) : Option (Int32) := e_Sharing_countShared (g_Sharing_countShared 1000000000) M a0
theorem kS_Sharing_60 : am_kS "CrewOffice$Sharing" 60 y_Integer_bitCount u_Integer_bitCount 1 := ⟨List.mem_of_getElem? (i := 998) (by decide +kernel), List.mem_of_getElem? (i := 622) (by decide +kernel), List.mem_of_getElem? (i := 74) (by decide +kernel), w_Integer_bitCount, ⟨⟨by decide +kernel, by decide +kernel⟩, by decide +kernel⟩⟩
set_option maxHeartbeats 4000000 in
theorem s_Sharing_countShared_0 {rc : Nat → Nat → Int32 → Int32 → am_M → Option (Int32)} {res : Int32} (ih_0 : ∀ (r0 : Nat) (x1 : Int32) (x2 : Int32) (M : am_M), rc 0 r0 x1 x2 M = some res → AW u_Sharing_countShared R_Sharing_countShared 0 0 4 [(0, .ref r0), (1, .int x1), (2, .int x2)] [] M (fun r M2 => r = .inl (some (.int res)) ∧ M2 = M)) : ∀ (r0 : Nat) (x1 : Int32) (x2 : Int32) (M : am_M), a_Sharing_countShared_0 rc r0 x1 x2 M = some res → AW u_Sharing_countShared R_Sharing_countShared 0 0 4 [(0, .ref r0), (1, .int x1), (2, .int x2)] [] M (fun r M2 => r = .inl (some (.int res)) ∧ M2 = M) := by
  intro r0 x1 x2 M h
  unfold a_Sharing_countShared_0 at h
  refine aw_iload_n d_Sharing_countShared_4 rfl rfl ?_
  refine aw_iconst (v := 4) d_Sharing_countShared_5 (by decide) ?_
  refine aw_icmp_ge (tgt := 27) d_Sharing_countShared_6 (by decide) (fun hc => ?_) (fun hc => ?_)
  · rw [if_pos hc] at h
    refine aw_iload_n d_Sharing_countShared_27 rfl rfl ?_
    cases h
    exact aw_ireturn d_Sharing_countShared_28 rfl (Nat.le_of_ble_eq_true rfl) (Nat.le_of_ble_eq_true rfl) ⟨rfl, rfl⟩
  · rw [if_neg hc] at h
    refine aw_iload_n d_Sharing_countShared_9 rfl rfl ?_
    refine aw_aload_n d_Sharing_countShared_10 rfl rfl ?_
    obtain ⟨t11, e_t11, h⟩ := q_bind h
    refine aw_gtr d_Sharing_countShared_11 fl_Sharing_9 (Or.inr ⟨_, rfl⟩) e_t11 ?_
    refine aw_iload_n d_Sharing_countShared_14 rfl rfl ?_
    obtain ⟨t15, e_t15, h⟩ := q_bind h
    refine aw_ldi d_Sharing_countShared_15 e_t15 ?_
    obtain ⟨t16, e_t16, h⟩ := q_bind h
    refine aw_cS (v := (some (.int t16))) (As := [.int t15]) (rest := [.int x1]) (st' := [.int t16, .int x1]) d_Sharing_countShared_16 kS_Sharing_60 ⟨Nat.le_of_ble_eq_true rfl, Nat.le_of_ble_eq_true rfl, Nat.le_of_ble_eq_true rfl, Nat.le_of_ble_eq_true rfl⟩ rfl rfl (Nat.le_of_ble_eq_true rfl) rfl (mt_Integer_bitCount e_t16) ?_
    refine aw_iadd d_Sharing_countShared_19 ?_
    refine aw_istore_n (ls' := [(1, .int _), (0, .ref _), (2, .int _)]) d_Sharing_countShared_20 rfl (Nat.le_of_ble_eq_true rfl) rfl ?_
    refine aw_iinc (v := (x2 + (1 : Int32))) (ls' := [(2, .int _), (1, .int _), (0, .ref _)]) d_Sharing_countShared_21 rfl rfl (Nat.le_of_ble_eq_true rfl) rfl ?_
    refine aw_goto (tgt := 4) d_Sharing_countShared_24 (by decide) ?_
    exact aw_pick [2, 1, 0] rfl (ih_0 _ _ _ _ h)
theorem l_Sharing_countShared {res : Int32} : ∀ F : Nat, (∀ (r0 : Nat) (x1 : Int32) (x2 : Int32) (M : am_M), g_Sharing_countShared F 0 r0 x1 x2 M = some res → AW u_Sharing_countShared R_Sharing_countShared 0 0 4 [(0, .ref r0), (1, .int x1), (2, .int x2)] [] M (fun r M2 => r = .inl (some (.int res)) ∧ M2 = M)) := by
  intro F
  induction F with
  | zero => exact fun _ _ _ _  h => (by cases h)
  | succ F ih =>
    have ih0 := ih
    exact s_Sharing_countShared_0 ih0
set_option maxHeartbeats 4000000 in
theorem mt_Sharing_countShared {M : am_M} {a0 : Nat} {res : Int32} (h : f_Sharing_countShared M a0 = some res) : AMet y_Sharing_countShared u_Sharing_countShared R_Sharing_countShared [.ref a0] M (fun r M2 => r = .inl (some (.int res)) ∧ M2 = M) := by
  refine am_met (by decide +kernel) w_Sharing_countShared rfl rfl (Nat.le_of_ble_eq_true rfl) ?_
  show AW u_Sharing_countShared R_Sharing_countShared 0 0 0 [(0, .ref a0)] [] M (fun r M2 => r = .inl (some (.int res)) ∧ M2 = M)
  have ih_0 := (l_Sharing_countShared (res := res) 1000000000)
  unfold f_Sharing_countShared at h
  unfold e_Sharing_countShared at h
  generalize g_Sharing_countShared 1000000000 = rc at h ih_0
  refine aw_iconst (v := 0) d_Sharing_countShared_0 (by decide) ?_
  refine aw_istore_n (ls' := [(1, .int _), (0, .ref _)]) d_Sharing_countShared_1 rfl (Nat.le_of_ble_eq_true rfl) rfl ?_
  refine aw_iconst (v := 0) d_Sharing_countShared_2 (by decide) ?_
  refine aw_istore_n (ls' := [(2, .int _), (1, .int _), (0, .ref _)]) d_Sharing_countShared_3 rfl (Nat.le_of_ble_eq_true rfl) rfl ?_
  exact aw_pick [2, 1, 0] rfl (ih_0 _ _ _ _ h)
def y_Sharing_findRivals : MethodName := ⟨"CrewOffice$Sharing", "findRivals", "()V"⟩
def u_Sharing_findRivals : am_U := ("CrewOffice$Sharing", "findRivals", prog_8_method_10_code, 3, none, [])
def R_Sharing_findRivals : Room := { frames := 1, cells := 0, slots := 0, locals := 23 }
theorem d_Sharing_findRivals_0 : decode u_Sharing_findRivals.2.2.1 0 = .ok (.iconst 0, 1) := by decide +kernel
theorem d_Sharing_findRivals_1 : decode u_Sharing_findRivals.2.2.1 1 = .ok (.istore_n 1, 1) := by decide +kernel
theorem d_Sharing_findRivals_2 : decode u_Sharing_findRivals.2.2.1 2 = .ok (.iload_n 1, 1) := by decide +kernel
theorem d_Sharing_findRivals_3 : decode u_Sharing_findRivals.2.2.1 3 = .ok (.aload_n 0, 1) := by decide +kernel
theorem d_Sharing_findRivals_4 : decode u_Sharing_findRivals.2.2.1 4 = .ok (.getfield 35, 3) := by decide +kernel
theorem d_Sharing_findRivals_7 : decode u_Sharing_findRivals.2.2.1 7 = .ok (.getfield 77, 3) := by decide +kernel
theorem d_Sharing_findRivals_10 : decode u_Sharing_findRivals.2.2.1 10 = .ok (.if_icmp .ge 70, 3) := by decide +kernel
theorem d_Sharing_findRivals_13 : decode u_Sharing_findRivals.2.2.1 13 = .ok (.aload_n 0, 1) := by decide +kernel
theorem d_Sharing_findRivals_14 : decode u_Sharing_findRivals.2.2.1 14 = .ok (.getfield 24, 3) := by decide +kernel
theorem d_Sharing_findRivals_17 : decode u_Sharing_findRivals.2.2.1 17 = .ok (.iload_n 1, 1) := by decide +kernel
theorem d_Sharing_findRivals_18 : decode u_Sharing_findRivals.2.2.1 18 = .ok (.iconst 0, 1) := by decide +kernel
theorem d_Sharing_findRivals_19 : decode u_Sharing_findRivals.2.2.1 19 = .ok (.iastore, 1) := by decide +kernel
theorem d_Sharing_findRivals_20 : decode u_Sharing_findRivals.2.2.1 20 = .ok (.iconst 0, 1) := by decide +kernel
theorem d_Sharing_findRivals_21 : decode u_Sharing_findRivals.2.2.1 21 = .ok (.istore_n 2, 1) := by decide +kernel
theorem d_Sharing_findRivals_22 : decode u_Sharing_findRivals.2.2.1 22 = .ok (.iload_n 2, 1) := by decide +kernel
theorem d_Sharing_findRivals_23 : decode u_Sharing_findRivals.2.2.1 23 = .ok (.aload_n 0, 1) := by decide +kernel
theorem d_Sharing_findRivals_24 : decode u_Sharing_findRivals.2.2.1 24 = .ok (.getfield 35, 3) := by decide +kernel
theorem d_Sharing_findRivals_27 : decode u_Sharing_findRivals.2.2.1 27 = .ok (.getfield 77, 3) := by decide +kernel
theorem d_Sharing_findRivals_30 : decode u_Sharing_findRivals.2.2.1 30 = .ok (.if_icmp .ge 44, 3) := by decide +kernel
theorem d_Sharing_findRivals_33 : decode u_Sharing_findRivals.2.2.1 33 = .ok (.iload_n 2, 1) := by decide +kernel
theorem d_Sharing_findRivals_34 : decode u_Sharing_findRivals.2.2.1 34 = .ok (.iload_n 1, 1) := by decide +kernel
theorem d_Sharing_findRivals_35 : decode u_Sharing_findRivals.2.2.1 35 = .ok (.if_icmp .eq 33, 3) := by decide +kernel
theorem d_Sharing_findRivals_38 : decode u_Sharing_findRivals.2.2.1 38 = .ok (.aload_n 0, 1) := by decide +kernel
theorem d_Sharing_findRivals_39 : decode u_Sharing_findRivals.2.2.1 39 = .ok (.aload_n 0, 1) := by decide +kernel
theorem d_Sharing_findRivals_40 : decode u_Sharing_findRivals.2.2.1 40 = .ok (.iload_n 1, 1) := by decide +kernel
theorem d_Sharing_findRivals_41 : decode u_Sharing_findRivals.2.2.1 41 = .ok (.invokevirtual 103, 3) := by decide +kernel
theorem d_Sharing_findRivals_44 : decode u_Sharing_findRivals.2.2.1 44 = .ok (.aload_n 0, 1) := by decide +kernel
theorem d_Sharing_findRivals_45 : decode u_Sharing_findRivals.2.2.1 45 = .ok (.iload_n 2, 1) := by decide +kernel
theorem d_Sharing_findRivals_46 : decode u_Sharing_findRivals.2.2.1 46 = .ok (.invokevirtual 103, 3) := by decide +kernel
theorem d_Sharing_findRivals_49 : decode u_Sharing_findRivals.2.2.1 49 = .ok (.invokevirtual 120, 3) := by decide +kernel
theorem d_Sharing_findRivals_52 : decode u_Sharing_findRivals.2.2.1 52 = .ok (.ifCond .eq 16, 3) := by decide +kernel
theorem d_Sharing_findRivals_55 : decode u_Sharing_findRivals.2.2.1 55 = .ok (.aload_n 0, 1) := by decide +kernel
theorem d_Sharing_findRivals_56 : decode u_Sharing_findRivals.2.2.1 56 = .ok (.getfield 24, 3) := by decide +kernel
theorem d_Sharing_findRivals_59 : decode u_Sharing_findRivals.2.2.1 59 = .ok (.iload_n 1, 1) := by decide +kernel
theorem d_Sharing_findRivals_60 : decode u_Sharing_findRivals.2.2.1 60 = .ok (.dup2, 1) := by decide +kernel
theorem d_Sharing_findRivals_61 : decode u_Sharing_findRivals.2.2.1 61 = .ok (.iaload, 1) := by decide +kernel
theorem d_Sharing_findRivals_62 : decode u_Sharing_findRivals.2.2.1 62 = .ok (.iload_n 2, 1) := by decide +kernel
theorem d_Sharing_findRivals_63 : decode u_Sharing_findRivals.2.2.1 63 = .ok (.invokestatic 56, 3) := by decide +kernel
theorem d_Sharing_findRivals_66 : decode u_Sharing_findRivals.2.2.1 66 = .ok (.ior, 1) := by decide +kernel
theorem d_Sharing_findRivals_67 : decode u_Sharing_findRivals.2.2.1 67 = .ok (.iastore, 1) := by decide +kernel
theorem d_Sharing_findRivals_68 : decode u_Sharing_findRivals.2.2.1 68 = .ok (.iinc 2 1, 3) := by decide +kernel
theorem d_Sharing_findRivals_71 : decode u_Sharing_findRivals.2.2.1 71 = .ok (.goto (-49), 3) := by decide +kernel
theorem d_Sharing_findRivals_74 : decode u_Sharing_findRivals.2.2.1 74 = .ok (.iinc 1 1, 3) := by decide +kernel
theorem d_Sharing_findRivals_77 : decode u_Sharing_findRivals.2.2.1 77 = .ok (.goto (-75), 3) := by decide +kernel
theorem d_Sharing_findRivals_80 : decode u_Sharing_findRivals.2.2.1 80 = .ok (.return_, 1) := by decide +kernel
theorem w_Sharing_findRivals : am_code y_Sharing_findRivals u_Sharing_findRivals ∈ am_ws := am_mem (List.mem_of_getElem? (i := 917) (by decide +kernel)) rfl
def a_Sharing_findRivals_0 (rc : Nat → Nat → Int32 → Int32 → am_M → Option (Unit × am_M)) (r0 : Nat) (x1 : Int32) (x2 : Int32) (M : am_M) : Option (Unit × am_M) := (q_gtr M r0 8 2).bind (fun t4 => (q_gti M t4 7 3).bind (fun t7 => if t7 ≤ x1 then (some ((), M)) else ((q_gtr M r0 8 8).bind (fun t14 => (q_sti M t14 x1 (0 : Int32)).bind (fun M19 => rc 1 r0 x1 (0 : Int32) M19)))))
def a_Sharing_findRivals_1 (rc : Nat → Nat → Int32 → Int32 → am_M → Option (Unit × am_M)) (r0 : Nat) (x1 : Int32) (x2 : Int32) (M : am_M) : Option (Unit × am_M) := (q_gtr M r0 8 2).bind (fun t24 => (q_gti M t24 7 3).bind (fun t27 => if t27 ≤ x2 then (rc 0 r0 (x1 + (1 : Int32)) 0 M) else (if x2 = x1 then (rc 2 r0 x1 x2 M) else ((q_ob M r0 8).bind (fun o41 => (f_Sharing_workAt M r0 x1).bind (fun t41 => (q_ob M r0 8).bind (fun o46 => (f_Sharing_workAt M r0 x2).bind (fun t46 => (q_ob M r0 8).bind (fun o49 => (f_Sharing_areRivals M r0 t41 t46).bind (fun t49 => if t49 = 0 then (rc 2 r0 x1 x2 M) else ((q_gtr M r0 8 8).bind (fun t56 => (q_ldi M t56 x1).bind (fun t61 => (f_Sharing_bitOf M x2).bind (fun t63 => (q_sti M t56 x1 (t61 ||| t63)).bind (fun M67 => rc 2 r0 x1 x2 M67)))))))))))))))
def a_Sharing_findRivals_2 (rc : Nat → Nat → Int32 → Int32 → am_M → Option (Unit × am_M)) (r0 : Nat) (x1 : Int32) (x2 : Int32) (M : am_M) : Option (Unit × am_M) := rc 1 r0 x1 (x2 + (1 : Int32)) M
def g_Sharing_findRivals : Nat → Nat → Nat → Int32 → Int32 → am_M → Option (Unit × am_M)
  | 0, _, _, _, _, _ => none
  | F + 1, 0, r0, x1, x2, M => a_Sharing_findRivals_0 (g_Sharing_findRivals F) r0 x1 x2 M
  | F + 1, 1, r0, x1, x2, M => a_Sharing_findRivals_1 (g_Sharing_findRivals F) r0 x1 x2 M
  | F + 1, 2, r0, x1, x2, M => a_Sharing_findRivals_2 (g_Sharing_findRivals F) r0 x1 x2 M
  | _ + 1, _ + 3, _, _, _, _ => none
def e_Sharing_findRivals (rc : Nat → Nat → Int32 → Int32 → am_M → Option (Unit × am_M)) (M : am_M) (a0 : Nat) : Option (Unit × am_M) := rc 0 a0 (0 : Int32) 0 M
def f_Sharing_findRivals (M : am_M) (a0 : Nat) : Option (Unit × am_M) := e_Sharing_findRivals (g_Sharing_findRivals 1000000000) M a0
theorem kV_Sharing_120 : am_kV "CrewOffice$Sharing" 120 8 y_Sharing_areRivals u_Sharing_areRivals 2 := ⟨List.mem_of_getElem? (i := 918) (by decide +kernel), ⟨List.mem_of_getElem? (i := 920) (by decide +kernel), List.mem_of_getElem? (i := 23) (by decide +kernel)⟩, List.mem_of_getElem? (i := 64) (by decide +kernel), w_Sharing_areRivals, ⟨⟨by decide +kernel, by decide +kernel⟩, by decide +kernel⟩⟩
set_option maxHeartbeats 4000000 in
theorem s_Sharing_findRivals_0 {rc : Nat → Nat → Int32 → Int32 → am_M → Option (Unit × am_M)} {res : Unit} {M' : am_M} (ih_0 : ∀ (r0 : Nat) (x1 : Int32) (x2 : Int32) (M : am_M), rc 0 r0 x1 x2 M = some (res, M') → AW u_Sharing_findRivals R_Sharing_findRivals 0 0 2 [(0, .ref r0), (1, .int x1)] [] M (fun r M2 => r = .inl none ∧ M2 = M')) (ih_1 : ∀ (r0 : Nat) (x1 : Int32) (x2 : Int32) (M : am_M), rc 1 r0 x1 x2 M = some (res, M') → AW u_Sharing_findRivals R_Sharing_findRivals 0 0 22 [(0, .ref r0), (1, .int x1), (2, .int x2)] [] M (fun r M2 => r = .inl none ∧ M2 = M')) (ih_2 : ∀ (r0 : Nat) (x1 : Int32) (x2 : Int32) (M : am_M), rc 2 r0 x1 x2 M = some (res, M') → AW u_Sharing_findRivals R_Sharing_findRivals 0 0 68 [(0, .ref r0), (1, .int x1), (2, .int x2)] [] M (fun r M2 => r = .inl none ∧ M2 = M')) : ∀ (r0 : Nat) (x1 : Int32) (x2 : Int32) (M : am_M), a_Sharing_findRivals_0 rc r0 x1 x2 M = some (res, M') → AW u_Sharing_findRivals R_Sharing_findRivals 0 0 2 [(0, .ref r0), (1, .int x1)] [] M (fun r M2 => r = .inl none ∧ M2 = M') := by
  intro r0 x1 x2 M h
  unfold a_Sharing_findRivals_0 at h
  refine aw_iload_n d_Sharing_findRivals_2 rfl rfl ?_
  refine aw_aload_n d_Sharing_findRivals_3 rfl rfl ?_
  obtain ⟨t4, e_t4, h⟩ := q_bind h
  refine aw_gtr d_Sharing_findRivals_4 fl_Sharing_35 (Or.inl ⟨_, rfl⟩) e_t4 ?_
  obtain ⟨t7, e_t7, h⟩ := q_bind h
  refine aw_gti d_Sharing_findRivals_7 fl_Sharing_77 (Or.inl rfl) e_t7 ?_
  refine aw_icmp_ge (tgt := 80) d_Sharing_findRivals_10 (by decide) (fun hc => ?_) (fun hc => ?_)
  · rw [if_pos hc] at h
    cases h
    exact aw_vreturn d_Sharing_findRivals_80 rfl (Nat.le_of_ble_eq_true rfl) (Nat.le_of_ble_eq_true rfl) ⟨rfl, rfl⟩
  · rw [if_neg hc] at h
    refine aw_aload_n d_Sharing_findRivals_13 rfl rfl ?_
    obtain ⟨t14, e_t14, h⟩ := q_bind h
    refine aw_gtr d_Sharing_findRivals_14 fl_Sharing_24 (Or.inr ⟨_, rfl⟩) e_t14 ?_
    refine aw_iload_n d_Sharing_findRivals_17 rfl rfl ?_
    refine aw_iconst (v := 0) d_Sharing_findRivals_18 (by decide) ?_
    obtain ⟨M19, e_M19, h⟩ := q_bind h
    refine aw_sti d_Sharing_findRivals_19 e_M19 ?_
    refine aw_iconst (v := 0) d_Sharing_findRivals_20 (by decide) ?_
    refine aw_istore_n (ls' := [(2, .int _), (0, .ref _), (1, .int _)]) d_Sharing_findRivals_21 rfl (Nat.le_of_ble_eq_true rfl) rfl ?_
    exact aw_pick [1, 2, 0] rfl (ih_1 _ _ _ _ h)
set_option maxHeartbeats 4000000 in
theorem s_Sharing_findRivals_1 {rc : Nat → Nat → Int32 → Int32 → am_M → Option (Unit × am_M)} {res : Unit} {M' : am_M} (ih_0 : ∀ (r0 : Nat) (x1 : Int32) (x2 : Int32) (M : am_M), rc 0 r0 x1 x2 M = some (res, M') → AW u_Sharing_findRivals R_Sharing_findRivals 0 0 2 [(0, .ref r0), (1, .int x1)] [] M (fun r M2 => r = .inl none ∧ M2 = M')) (ih_1 : ∀ (r0 : Nat) (x1 : Int32) (x2 : Int32) (M : am_M), rc 1 r0 x1 x2 M = some (res, M') → AW u_Sharing_findRivals R_Sharing_findRivals 0 0 22 [(0, .ref r0), (1, .int x1), (2, .int x2)] [] M (fun r M2 => r = .inl none ∧ M2 = M')) (ih_2 : ∀ (r0 : Nat) (x1 : Int32) (x2 : Int32) (M : am_M), rc 2 r0 x1 x2 M = some (res, M') → AW u_Sharing_findRivals R_Sharing_findRivals 0 0 68 [(0, .ref r0), (1, .int x1), (2, .int x2)] [] M (fun r M2 => r = .inl none ∧ M2 = M')) : ∀ (r0 : Nat) (x1 : Int32) (x2 : Int32) (M : am_M), a_Sharing_findRivals_1 rc r0 x1 x2 M = some (res, M') → AW u_Sharing_findRivals R_Sharing_findRivals 0 0 22 [(0, .ref r0), (1, .int x1), (2, .int x2)] [] M (fun r M2 => r = .inl none ∧ M2 = M') := by
  intro r0 x1 x2 M h
  unfold a_Sharing_findRivals_1 at h
  refine aw_iload_n d_Sharing_findRivals_22 rfl rfl ?_
  refine aw_aload_n d_Sharing_findRivals_23 rfl rfl ?_
  obtain ⟨t24, e_t24, h⟩ := q_bind h
  refine aw_gtr d_Sharing_findRivals_24 fl_Sharing_35 (Or.inl ⟨_, rfl⟩) e_t24 ?_
  obtain ⟨t27, e_t27, h⟩ := q_bind h
  refine aw_gti d_Sharing_findRivals_27 fl_Sharing_77 (Or.inl rfl) e_t27 ?_
  refine aw_icmp_ge (tgt := 74) d_Sharing_findRivals_30 (by decide) (fun hc => ?_) (fun hc => ?_)
  · rw [if_pos hc] at h
    refine aw_iinc (v := (x1 + (1 : Int32))) (ls' := [(1, .int _), (0, .ref _), (2, .int _)]) d_Sharing_findRivals_74 rfl rfl (Nat.le_of_ble_eq_true rfl) rfl ?_
    refine aw_goto (tgt := 2) d_Sharing_findRivals_77 (by decide) ?_
    exact aw_pick [1, 0] rfl (ih_0 _ _ _ _ h)
  · rw [if_neg hc] at h
    refine aw_iload_n d_Sharing_findRivals_33 rfl rfl ?_
    refine aw_iload_n d_Sharing_findRivals_34 rfl rfl ?_
    refine aw_icmp_eq (tgt := 68) d_Sharing_findRivals_35 (by decide) (fun hc => ?_) (fun hc => ?_)
    · rw [if_pos hc] at h
      exact aw_pick [0, 1, 2] rfl (ih_2 _ _ _ _ h)
    · rw [if_neg hc] at h
      refine aw_aload_n d_Sharing_findRivals_38 rfl rfl ?_
      refine aw_aload_n d_Sharing_findRivals_39 rfl rfl ?_
      refine aw_iload_n d_Sharing_findRivals_40 rfl rfl ?_
      obtain ⟨o41, e_o41, h⟩ := q_bind h
      obtain ⟨t41, e_t41, h⟩ := q_bind h
      refine aw_cV (v := (some (.ref t41))) (As := [.int x1]) (rest := [.ref r0]) (st' := [.ref t41, .ref r0]) d_Sharing_findRivals_41 kV_Sharing_103 (q_ob_spec e_o41).1 (q_ob_spec e_o41).2 ⟨Nat.le_of_ble_eq_true rfl, Nat.le_of_ble_eq_true rfl, Nat.le_of_ble_eq_true rfl, Nat.le_of_ble_eq_true rfl⟩ rfl rfl (Nat.le_of_ble_eq_true rfl) rfl (mt_Sharing_workAt e_t41) ?_
      refine aw_aload_n d_Sharing_findRivals_44 rfl rfl ?_
      refine aw_iload_n d_Sharing_findRivals_45 rfl rfl ?_
      obtain ⟨o46, e_o46, h⟩ := q_bind h
      obtain ⟨t46, e_t46, h⟩ := q_bind h
      refine aw_cV (v := (some (.ref t46))) (As := [.int x2]) (rest := [.ref t41, .ref r0]) (st' := [.ref t46, .ref t41, .ref r0]) d_Sharing_findRivals_46 kV_Sharing_103 (q_ob_spec e_o46).1 (q_ob_spec e_o46).2 ⟨Nat.le_of_ble_eq_true rfl, Nat.le_of_ble_eq_true rfl, Nat.le_of_ble_eq_true rfl, Nat.le_of_ble_eq_true rfl⟩ rfl rfl (Nat.le_of_ble_eq_true rfl) rfl (mt_Sharing_workAt e_t46) ?_
      obtain ⟨o49, e_o49, h⟩ := q_bind h
      obtain ⟨t49, e_t49, h⟩ := q_bind h
      refine aw_cV (v := (some (.int t49))) (As := [.ref t41, .ref t46]) (rest := []) (st' := [.int t49]) d_Sharing_findRivals_49 kV_Sharing_120 (q_ob_spec e_o49).1 (q_ob_spec e_o49).2 ⟨Nat.le_of_ble_eq_true rfl, Nat.le_of_ble_eq_true rfl, Nat.le_of_ble_eq_true rfl, Nat.le_of_ble_eq_true rfl⟩ rfl rfl (Nat.le_of_ble_eq_true rfl) rfl (mt_Sharing_areRivals e_t49) ?_
      refine aw_if_eq (tgt := 68) d_Sharing_findRivals_52 (by decide) (fun hc => ?_) (fun hc => ?_)
      · rw [if_pos hc] at h
        exact aw_pick [0, 1, 2] rfl (ih_2 _ _ _ _ h)
      · rw [if_neg hc] at h
        refine aw_aload_n d_Sharing_findRivals_55 rfl rfl ?_
        obtain ⟨t56, e_t56, h⟩ := q_bind h
        refine aw_gtr d_Sharing_findRivals_56 fl_Sharing_24 (Or.inr ⟨_, rfl⟩) e_t56 ?_
        refine aw_iload_n d_Sharing_findRivals_59 rfl rfl ?_
        refine aw_dup2 d_Sharing_findRivals_60 rfl rfl ?_
        obtain ⟨t61, e_t61, h⟩ := q_bind h
        refine aw_ldi d_Sharing_findRivals_61 e_t61 ?_
        refine aw_iload_n d_Sharing_findRivals_62 rfl rfl ?_
        obtain ⟨t63, e_t63, h⟩ := q_bind h
        refine aw_cS (v := (some (.int t63))) (As := [.int x2]) (rest := [.int t61, .int x1, .ref t56]) (st' := [.int t63, .int t61, .int x1, .ref t56]) d_Sharing_findRivals_63 kS_Sharing_56 ⟨Nat.le_of_ble_eq_true rfl, Nat.le_of_ble_eq_true rfl, Nat.le_of_ble_eq_true rfl, Nat.le_of_ble_eq_true rfl⟩ rfl rfl (Nat.le_of_ble_eq_true rfl) rfl (mt_Sharing_bitOf e_t63) ?_
        refine aw_ior d_Sharing_findRivals_66 ?_
        obtain ⟨M67, e_M67, h⟩ := q_bind h
        refine aw_sti d_Sharing_findRivals_67 e_M67 ?_
        exact aw_pick [0, 1, 2] rfl (ih_2 _ _ _ _ h)
set_option maxHeartbeats 4000000 in
theorem s_Sharing_findRivals_2 {rc : Nat → Nat → Int32 → Int32 → am_M → Option (Unit × am_M)} {res : Unit} {M' : am_M} (ih_0 : ∀ (r0 : Nat) (x1 : Int32) (x2 : Int32) (M : am_M), rc 0 r0 x1 x2 M = some (res, M') → AW u_Sharing_findRivals R_Sharing_findRivals 0 0 2 [(0, .ref r0), (1, .int x1)] [] M (fun r M2 => r = .inl none ∧ M2 = M')) (ih_1 : ∀ (r0 : Nat) (x1 : Int32) (x2 : Int32) (M : am_M), rc 1 r0 x1 x2 M = some (res, M') → AW u_Sharing_findRivals R_Sharing_findRivals 0 0 22 [(0, .ref r0), (1, .int x1), (2, .int x2)] [] M (fun r M2 => r = .inl none ∧ M2 = M')) (ih_2 : ∀ (r0 : Nat) (x1 : Int32) (x2 : Int32) (M : am_M), rc 2 r0 x1 x2 M = some (res, M') → AW u_Sharing_findRivals R_Sharing_findRivals 0 0 68 [(0, .ref r0), (1, .int x1), (2, .int x2)] [] M (fun r M2 => r = .inl none ∧ M2 = M')) : ∀ (r0 : Nat) (x1 : Int32) (x2 : Int32) (M : am_M), a_Sharing_findRivals_2 rc r0 x1 x2 M = some (res, M') → AW u_Sharing_findRivals R_Sharing_findRivals 0 0 68 [(0, .ref r0), (1, .int x1), (2, .int x2)] [] M (fun r M2 => r = .inl none ∧ M2 = M') := by
  intro r0 x1 x2 M h
  unfold a_Sharing_findRivals_2 at h
  refine aw_iinc (v := (x2 + (1 : Int32))) (ls' := [(2, .int _), (0, .ref _), (1, .int _)]) d_Sharing_findRivals_68 rfl rfl (Nat.le_of_ble_eq_true rfl) rfl ?_
  refine aw_goto (tgt := 22) d_Sharing_findRivals_71 (by decide) ?_
  exact aw_pick [1, 2, 0] rfl (ih_1 _ _ _ _ h)
theorem l_Sharing_findRivals {res : Unit} {M' : am_M} : ∀ F : Nat, (∀ (r0 : Nat) (x1 : Int32) (x2 : Int32) (M : am_M), g_Sharing_findRivals F 0 r0 x1 x2 M = some (res, M') → AW u_Sharing_findRivals R_Sharing_findRivals 0 0 2 [(0, .ref r0), (1, .int x1)] [] M (fun r M2 => r = .inl none ∧ M2 = M')) ∧ (∀ (r0 : Nat) (x1 : Int32) (x2 : Int32) (M : am_M), g_Sharing_findRivals F 1 r0 x1 x2 M = some (res, M') → AW u_Sharing_findRivals R_Sharing_findRivals 0 0 22 [(0, .ref r0), (1, .int x1), (2, .int x2)] [] M (fun r M2 => r = .inl none ∧ M2 = M')) ∧ (∀ (r0 : Nat) (x1 : Int32) (x2 : Int32) (M : am_M), g_Sharing_findRivals F 2 r0 x1 x2 M = some (res, M') → AW u_Sharing_findRivals R_Sharing_findRivals 0 0 68 [(0, .ref r0), (1, .int x1), (2, .int x2)] [] M (fun r M2 => r = .inl none ∧ M2 = M')) := by
  intro F
  induction F with
  | zero => exact ⟨fun _ _ _ _  h => (by cases h), fun _ _ _ _  h => (by cases h), fun _ _ _ _  h => (by cases h)⟩
  | succ F ih =>
    obtain ⟨ih0, ih1, ih2⟩ := ih
    exact ⟨s_Sharing_findRivals_0 ih0 ih1 ih2, s_Sharing_findRivals_1 ih0 ih1 ih2, s_Sharing_findRivals_2 ih0 ih1 ih2⟩
set_option maxHeartbeats 4000000 in
theorem mt_Sharing_findRivals {M : am_M} {a0 : Nat} {res : Unit} {M' : am_M} (h : f_Sharing_findRivals M a0 = some (res, M')) : AMet y_Sharing_findRivals u_Sharing_findRivals R_Sharing_findRivals [.ref a0] M (fun r M2 => r = .inl none ∧ M2 = M') := by
  refine am_met (by decide +kernel) w_Sharing_findRivals rfl rfl (Nat.le_of_ble_eq_true rfl) ?_
  show AW u_Sharing_findRivals R_Sharing_findRivals 0 0 0 [(0, .ref a0)] [] M (fun r M2 => r = .inl none ∧ M2 = M')
  have ih_0 := (l_Sharing_findRivals (res := res) (M' := M') 1000000000).1
  have ih_1 := (l_Sharing_findRivals (res := res) (M' := M') 1000000000).2.1
  have ih_2 := (l_Sharing_findRivals (res := res) (M' := M') 1000000000).2.2
  unfold f_Sharing_findRivals at h
  unfold e_Sharing_findRivals at h
  generalize g_Sharing_findRivals 1000000000 = rc at h ih_0 ih_1 ih_2
  refine aw_iconst (v := 0) d_Sharing_findRivals_0 (by decide) ?_
  refine aw_istore_n (ls' := [(1, .int _), (0, .ref _)]) d_Sharing_findRivals_1 rfl (Nat.le_of_ble_eq_true rfl) rfl ?_
  exact aw_pick [1, 0] rfl (ih_0 _ _ _ _ h)
def y_Sharing_timesMet : MethodName := ⟨"CrewOffice$Sharing", "timesMet", "(III)I"⟩
def u_Sharing_timesMet : am_U := ("CrewOffice$Sharing", "timesMet", prog_8_method_16_code, 9, (some .int), [])
def R_Sharing_timesMet : Room := { frames := 1, cells := 0, slots := 0, locals := 24 }
theorem d_Sharing_timesMet_0 : decode u_Sharing_timesMet.2.2.1 0 = .ok (.iconst 0, 1) := by decide +kernel
theorem d_Sharing_timesMet_1 : decode u_Sharing_timesMet.2.2.1 1 = .ok (.istore 4, 2) := by decide +kernel
theorem d_Sharing_timesMet_3 : decode u_Sharing_timesMet.2.2.1 3 = .ok (.iconst 0, 1) := by decide +kernel
theorem d_Sharing_timesMet_4 : decode u_Sharing_timesMet.2.2.1 4 = .ok (.istore 5, 2) := by decide +kernel
theorem d_Sharing_timesMet_6 : decode u_Sharing_timesMet.2.2.1 6 = .ok (.iconst 0, 1) := by decide +kernel
theorem d_Sharing_timesMet_7 : decode u_Sharing_timesMet.2.2.1 7 = .ok (.istore 6, 2) := by decide +kernel
theorem d_Sharing_timesMet_9 : decode u_Sharing_timesMet.2.2.1 9 = .ok (.iconst 0, 1) := by decide +kernel
theorem d_Sharing_timesMet_10 : decode u_Sharing_timesMet.2.2.1 10 = .ok (.istore 7, 2) := by decide +kernel
theorem d_Sharing_timesMet_12 : decode u_Sharing_timesMet.2.2.1 12 = .ok (.iload 7, 2) := by decide +kernel
theorem d_Sharing_timesMet_14 : decode u_Sharing_timesMet.2.2.1 14 = .ok (.aload_n 0, 1) := by decide +kernel
theorem d_Sharing_timesMet_15 : decode u_Sharing_timesMet.2.2.1 15 = .ok (.getfield 35, 3) := by decide +kernel
theorem d_Sharing_timesMet_18 : decode u_Sharing_timesMet.2.2.1 18 = .ok (.getfield 77, 3) := by decide +kernel
theorem d_Sharing_timesMet_21 : decode u_Sharing_timesMet.2.2.1 21 = .ok (.if_icmp .ge 98, 3) := by decide +kernel
theorem d_Sharing_timesMet_24 : decode u_Sharing_timesMet.2.2.1 24 = .ok (.iload_n 3, 1) := by decide +kernel
theorem d_Sharing_timesMet_25 : decode u_Sharing_timesMet.2.2.1 25 = .ok (.iload 7, 2) := by decide +kernel
theorem d_Sharing_timesMet_27 : decode u_Sharing_timesMet.2.2.1 27 = .ok (.invokestatic 56, 3) := by decide +kernel
theorem d_Sharing_timesMet_30 : decode u_Sharing_timesMet.2.2.1 30 = .ok (.iand, 1) := by decide +kernel
theorem d_Sharing_timesMet_31 : decode u_Sharing_timesMet.2.2.1 31 = .ok (.ifCond .eq 82, 3) := by decide +kernel
theorem d_Sharing_timesMet_34 : decode u_Sharing_timesMet.2.2.1 34 = .ok (.aload_n 0, 1) := by decide +kernel
theorem d_Sharing_timesMet_35 : decode u_Sharing_timesMet.2.2.1 35 = .ok (.iload 7, 2) := by decide +kernel
theorem d_Sharing_timesMet_37 : decode u_Sharing_timesMet.2.2.1 37 = .ok (.invokevirtual 103, 3) := by decide +kernel
theorem d_Sharing_timesMet_40 : decode u_Sharing_timesMet.2.2.1 40 = .ok (.astore 8, 2) := by decide +kernel
theorem d_Sharing_timesMet_42 : decode u_Sharing_timesMet.2.2.1 42 = .ok (.iload 4, 2) := by decide +kernel
theorem d_Sharing_timesMet_44 : decode u_Sharing_timesMet.2.2.1 44 = .ok (.iload_n 1, 1) := by decide +kernel
theorem d_Sharing_timesMet_45 : decode u_Sharing_timesMet.2.2.1 45 = .ok (.ifCond .ne 16, 3) := by decide +kernel
theorem d_Sharing_timesMet_48 : decode u_Sharing_timesMet.2.2.1 48 = .ok (.aload 8, 2) := by decide +kernel
theorem d_Sharing_timesMet_50 : decode u_Sharing_timesMet.2.2.1 50 = .ok (.iload_n 2, 1) := by decide +kernel
theorem d_Sharing_timesMet_51 : decode u_Sharing_timesMet.2.2.1 51 = .ok (.invokevirtual 164, 3) := by decide +kernel
theorem d_Sharing_timesMet_54 : decode u_Sharing_timesMet.2.2.1 54 = .ok (.ifCond .eq 7, 3) := by decide +kernel
theorem d_Sharing_timesMet_57 : decode u_Sharing_timesMet.2.2.1 57 = .ok (.iconst 1, 1) := by decide +kernel
theorem d_Sharing_timesMet_58 : decode u_Sharing_timesMet.2.2.1 58 = .ok (.goto 4, 3) := by decide +kernel
theorem d_Sharing_timesMet_61 : decode u_Sharing_timesMet.2.2.1 61 = .ok (.iconst 0, 1) := by decide +kernel
theorem d_Sharing_timesMet_62 : decode u_Sharing_timesMet.2.2.1 62 = .ok (.iadd, 1) := by decide +kernel
theorem d_Sharing_timesMet_63 : decode u_Sharing_timesMet.2.2.1 63 = .ok (.istore 4, 2) := by decide +kernel
theorem d_Sharing_timesMet_65 : decode u_Sharing_timesMet.2.2.1 65 = .ok (.iload 5, 2) := by decide +kernel
theorem d_Sharing_timesMet_67 : decode u_Sharing_timesMet.2.2.1 67 = .ok (.iload_n 1, 1) := by decide +kernel
theorem d_Sharing_timesMet_68 : decode u_Sharing_timesMet.2.2.1 68 = .ok (.iconst 1, 1) := by decide +kernel
theorem d_Sharing_timesMet_69 : decode u_Sharing_timesMet.2.2.1 69 = .ok (.if_icmp .ne 16, 3) := by decide +kernel
theorem d_Sharing_timesMet_72 : decode u_Sharing_timesMet.2.2.1 72 = .ok (.aload 8, 2) := by decide +kernel
theorem d_Sharing_timesMet_74 : decode u_Sharing_timesMet.2.2.1 74 = .ok (.iload_n 2, 1) := by decide +kernel
theorem d_Sharing_timesMet_75 : decode u_Sharing_timesMet.2.2.1 75 = .ok (.aload_n 0, 1) := by decide +kernel
theorem d_Sharing_timesMet_76 : decode u_Sharing_timesMet.2.2.1 76 = .ok (.getfield 27, 3) := by decide +kernel
theorem d_Sharing_timesMet_79 : decode u_Sharing_timesMet.2.2.1 79 = .ok (.invokevirtual 168, 3) := by decide +kernel
theorem d_Sharing_timesMet_82 : decode u_Sharing_timesMet.2.2.1 82 = .ok (.goto 4, 3) := by decide +kernel
theorem d_Sharing_timesMet_85 : decode u_Sharing_timesMet.2.2.1 85 = .ok (.iconst 0, 1) := by decide +kernel
theorem d_Sharing_timesMet_86 : decode u_Sharing_timesMet.2.2.1 86 = .ok (.iadd, 1) := by decide +kernel
theorem d_Sharing_timesMet_87 : decode u_Sharing_timesMet.2.2.1 87 = .ok (.istore 5, 2) := by decide +kernel
theorem d_Sharing_timesMet_89 : decode u_Sharing_timesMet.2.2.1 89 = .ok (.iload 6, 2) := by decide +kernel
theorem d_Sharing_timesMet_91 : decode u_Sharing_timesMet.2.2.1 91 = .ok (.iload_n 1, 1) := by decide +kernel
theorem d_Sharing_timesMet_92 : decode u_Sharing_timesMet.2.2.1 92 = .ok (.iconst 2, 1) := by decide +kernel
theorem d_Sharing_timesMet_93 : decode u_Sharing_timesMet.2.2.1 93 = .ok (.if_icmp .ne 16, 3) := by decide +kernel
theorem d_Sharing_timesMet_96 : decode u_Sharing_timesMet.2.2.1 96 = .ok (.aload 8, 2) := by decide +kernel
theorem d_Sharing_timesMet_98 : decode u_Sharing_timesMet.2.2.1 98 = .ok (.iload_n 2, 1) := by decide +kernel
theorem d_Sharing_timesMet_99 : decode u_Sharing_timesMet.2.2.1 99 = .ok (.invokevirtual 172, 3) := by decide +kernel
theorem d_Sharing_timesMet_102 : decode u_Sharing_timesMet.2.2.1 102 = .ok (.ifCond .eq 7, 3) := by decide +kernel
theorem d_Sharing_timesMet_105 : decode u_Sharing_timesMet.2.2.1 105 = .ok (.iconst 1, 1) := by decide +kernel
theorem d_Sharing_timesMet_106 : decode u_Sharing_timesMet.2.2.1 106 = .ok (.goto 4, 3) := by decide +kernel
theorem d_Sharing_timesMet_109 : decode u_Sharing_timesMet.2.2.1 109 = .ok (.iconst 0, 1) := by decide +kernel
theorem d_Sharing_timesMet_110 : decode u_Sharing_timesMet.2.2.1 110 = .ok (.iadd, 1) := by decide +kernel
theorem d_Sharing_timesMet_111 : decode u_Sharing_timesMet.2.2.1 111 = .ok (.istore 6, 2) := by decide +kernel
theorem d_Sharing_timesMet_113 : decode u_Sharing_timesMet.2.2.1 113 = .ok (.iinc 7 1, 3) := by decide +kernel
theorem d_Sharing_timesMet_116 : decode u_Sharing_timesMet.2.2.1 116 = .ok (.goto (-104), 3) := by decide +kernel
theorem d_Sharing_timesMet_119 : decode u_Sharing_timesMet.2.2.1 119 = .ok (.iload_n 1, 1) := by decide +kernel
theorem d_Sharing_timesMet_120 : decode u_Sharing_timesMet.2.2.1 120 = .ok (.lookupswitch 42 #[(0, 28), (1, 39)], 28) := by decide +kernel
theorem d_Sharing_timesMet_148 : decode u_Sharing_timesMet.2.2.1 148 = .ok (.iload 4, 2) := by decide +kernel
theorem d_Sharing_timesMet_150 : decode u_Sharing_timesMet.2.2.1 150 = .ok (.ifCond .le 7, 3) := by decide +kernel
theorem d_Sharing_timesMet_153 : decode u_Sharing_timesMet.2.2.1 153 = .ok (.iconst 1, 1) := by decide +kernel
theorem d_Sharing_timesMet_154 : decode u_Sharing_timesMet.2.2.1 154 = .ok (.goto 4, 3) := by decide +kernel
theorem d_Sharing_timesMet_157 : decode u_Sharing_timesMet.2.2.1 157 = .ok (.iconst 0, 1) := by decide +kernel
theorem d_Sharing_timesMet_158 : decode u_Sharing_timesMet.2.2.1 158 = .ok (.ireturn, 1) := by decide +kernel
theorem d_Sharing_timesMet_159 : decode u_Sharing_timesMet.2.2.1 159 = .ok (.iload 5, 2) := by decide +kernel
theorem d_Sharing_timesMet_161 : decode u_Sharing_timesMet.2.2.1 161 = .ok (.ireturn, 1) := by decide +kernel
theorem d_Sharing_timesMet_162 : decode u_Sharing_timesMet.2.2.1 162 = .ok (.iload 6, 2) := by decide +kernel
theorem d_Sharing_timesMet_164 : decode u_Sharing_timesMet.2.2.1 164 = .ok (.ifCond .ne 7, 3) := by decide +kernel
theorem d_Sharing_timesMet_167 : decode u_Sharing_timesMet.2.2.1 167 = .ok (.iconst 1, 1) := by decide +kernel
theorem d_Sharing_timesMet_168 : decode u_Sharing_timesMet.2.2.1 168 = .ok (.goto 4, 3) := by decide +kernel
theorem d_Sharing_timesMet_171 : decode u_Sharing_timesMet.2.2.1 171 = .ok (.iconst 0, 1) := by decide +kernel
theorem d_Sharing_timesMet_172 : decode u_Sharing_timesMet.2.2.1 172 = .ok (.ireturn, 1) := by decide +kernel
theorem w_Sharing_timesMet : am_code y_Sharing_timesMet u_Sharing_timesMet ∈ am_ws := am_mem (List.mem_of_getElem? (i := 937) (by decide +kernel)) rfl
def a_Sharing_timesMet_0 (rc : Nat → Nat → Int32 → Int32 → Int32 → Int32 → Int32 → Int32 → Int32 → Nat → Int32 → Int32 → am_M → Option (Int32)) (r0 : Nat) (x1 : Int32) (x2 : Int32) (x3 : Int32) (x4 : Int32) (x5 : Int32) (x6 : Int32) (x7 : Int32) (r8 : Nat) (s0 : Int32) (s1 : Int32) (M : am_M) : Option (Int32) := (q_gtr M r0 8 2).bind (fun t15 => (q_gti M t15 7 3).bind (fun t18 => if t18 ≤ x7 then (if x1 = (0 : Int32) then (if x4 ≤ 0 then (some (0 : Int32)) else (some (1 : Int32))) else if x1 = (1 : Int32) then (some x5) else (if x6 = 0 then (some (1 : Int32)) else (some (0 : Int32)))) else ((f_Sharing_bitOf M x7).bind (fun t27 => if (x3 &&& t27) = 0 then (rc 6 r0 x1 x2 x3 x4 x5 x6 x7 0 0 0 M) else ((q_ob M r0 8).bind (fun o37 => (f_Sharing_workAt M r0 x7).bind (fun t37 => if x1 = 0 then ((q_ob M t37 4).bind (fun o51 => (f_Work_hasFlight M t37 x2).bind (fun t51 => if t51 = 0 then (rc 1 r0 x1 x2 x3 0 x5 x6 x7 t37 x4 0 M) else (rc 2 r0 x1 x2 x3 0 x5 x6 x7 t37 (1 : Int32) x4 M)))) else (rc 1 r0 x1 x2 x3 0 x5 x6 x7 t37 x4 0 M))))))))
def a_Sharing_timesMet_1 (rc : Nat → Nat → Int32 → Int32 → Int32 → Int32 → Int32 → Int32 → Int32 → Nat → Int32 → Int32 → am_M → Option (Int32)) (r0 : Nat) (x1 : Int32) (x2 : Int32) (x3 : Int32) (x4 : Int32) (x5 : Int32) (x6 : Int32) (x7 : Int32) (r8 : Nat) (s0 : Int32) (s1 : Int32) (M : am_M) : Option (Int32) := rc 2 r0 x1 x2 x3 0 x5 x6 x7 r8 (0 : Int32) s0 M
def a_Sharing_timesMet_2 (rc : Nat → Nat → Int32 → Int32 → Int32 → Int32 → Int32 → Int32 → Int32 → Nat → Int32 → Int32 → am_M → Option (Int32)) (r0 : Nat) (x1 : Int32) (x2 : Int32) (x3 : Int32) (x4 : Int32) (x5 : Int32) (x6 : Int32) (x7 : Int32) (r8 : Nat) (s0 : Int32) (s1 : Int32) (M : am_M) : Option (Int32) := if x1 = (1 : Int32) then ((q_gtr M r0 8 0).bind (fun t76 => (q_ob M r8 4).bind (fun o79 => (f_Work_arrivalsAt M r8 x2 t76).bind (fun t79 => rc 3 r0 x1 x2 x3 (s1 + s0) 0 x6 x7 r8 t79 x5 M)))) else (rc 3 r0 x1 x2 x3 (s1 + s0) 0 x6 x7 r8 (0 : Int32) x5 M)
def a_Sharing_timesMet_3 (rc : Nat → Nat → Int32 → Int32 → Int32 → Int32 → Int32 → Int32 → Int32 → Nat → Int32 → Int32 → am_M → Option (Int32)) (r0 : Nat) (x1 : Int32) (x2 : Int32) (x3 : Int32) (x4 : Int32) (x5 : Int32) (x6 : Int32) (x7 : Int32) (r8 : Nat) (s0 : Int32) (s1 : Int32) (M : am_M) : Option (Int32) := if x1 = (2 : Int32) then ((q_ob M r8 4).bind (fun o99 => (f_Work_touchesDay M r8 x2).bind (fun t99 => if t99 = 0 then (rc 4 r0 x1 x2 x3 x4 (s1 + s0) 0 x7 0 x6 0 M) else (rc 5 r0 x1 x2 x3 x4 (s1 + s0) 0 x7 0 (1 : Int32) x6 M)))) else (rc 4 r0 x1 x2 x3 x4 (s1 + s0) 0 x7 0 x6 0 M)
def a_Sharing_timesMet_4 (rc : Nat → Nat → Int32 → Int32 → Int32 → Int32 → Int32 → Int32 → Int32 → Nat → Int32 → Int32 → am_M → Option (Int32)) (r0 : Nat) (x1 : Int32) (x2 : Int32) (x3 : Int32) (x4 : Int32) (x5 : Int32) (x6 : Int32) (x7 : Int32) (r8 : Nat) (s0 : Int32) (s1 : Int32) (M : am_M) : Option (Int32) := rc 5 r0 x1 x2 x3 x4 x5 0 x7 0 (0 : Int32) s0 M
def a_Sharing_timesMet_5 (rc : Nat → Nat → Int32 → Int32 → Int32 → Int32 → Int32 → Int32 → Int32 → Nat → Int32 → Int32 → am_M → Option (Int32)) (r0 : Nat) (x1 : Int32) (x2 : Int32) (x3 : Int32) (x4 : Int32) (x5 : Int32) (x6 : Int32) (x7 : Int32) (r8 : Nat) (s0 : Int32) (s1 : Int32) (M : am_M) : Option (Int32) := rc 6 r0 x1 x2 x3 x4 x5 (s1 + s0) x7 0 0 0 M
def a_Sharing_timesMet_6 (rc : Nat → Nat → Int32 → Int32 → Int32 → Int32 → Int32 → Int32 → Int32 → Nat → Int32 → Int32 → am_M → Option (Int32)) (r0 : Nat) (x1 : Int32) (x2 : Int32) (x3 : Int32) (x4 : Int32) (x5 : Int32) (x6 : Int32) (x7 : Int32) (r8 : Nat) (s0 : Int32) (s1 : Int32) (M : am_M) : Option (Int32) := rc 0 r0 x1 x2 x3 x4 x5 x6 (x7 + (1 : Int32)) 0 0 0 M
def g_Sharing_timesMet : Nat → Nat → Nat → Int32 → Int32 → Int32 → Int32 → Int32 → Int32 → Int32 → Nat → Int32 → Int32 → am_M → Option (Int32)
  | 0, _, _, _, _, _, _, _, _, _, _, _, _, _ => none
  | F + 1, 0, r0, x1, x2, x3, x4, x5, x6, x7, r8, s0, s1, M => a_Sharing_timesMet_0 (g_Sharing_timesMet F) r0 x1 x2 x3 x4 x5 x6 x7 r8 s0 s1 M
  | F + 1, 1, r0, x1, x2, x3, x4, x5, x6, x7, r8, s0, s1, M => a_Sharing_timesMet_1 (g_Sharing_timesMet F) r0 x1 x2 x3 x4 x5 x6 x7 r8 s0 s1 M
  | F + 1, 2, r0, x1, x2, x3, x4, x5, x6, x7, r8, s0, s1, M => a_Sharing_timesMet_2 (g_Sharing_timesMet F) r0 x1 x2 x3 x4 x5 x6 x7 r8 s0 s1 M
  | F + 1, 3, r0, x1, x2, x3, x4, x5, x6, x7, r8, s0, s1, M => a_Sharing_timesMet_3 (g_Sharing_timesMet F) r0 x1 x2 x3 x4 x5 x6 x7 r8 s0 s1 M
  | F + 1, 4, r0, x1, x2, x3, x4, x5, x6, x7, r8, s0, s1, M => a_Sharing_timesMet_4 (g_Sharing_timesMet F) r0 x1 x2 x3 x4 x5 x6 x7 r8 s0 s1 M
  | F + 1, 5, r0, x1, x2, x3, x4, x5, x6, x7, r8, s0, s1, M => a_Sharing_timesMet_5 (g_Sharing_timesMet F) r0 x1 x2 x3 x4 x5 x6 x7 r8 s0 s1 M
  | F + 1, 6, r0, x1, x2, x3, x4, x5, x6, x7, r8, s0, s1, M => a_Sharing_timesMet_6 (g_Sharing_timesMet F) r0 x1 x2 x3 x4 x5 x6 x7 r8 s0 s1 M
  | _ + 1, _ + 7, _, _, _, _, _, _, _, _, _, _, _, _ => none
def e_Sharing_timesMet (rc : Nat → Nat → Int32 → Int32 → Int32 → Int32 → Int32 → Int32 → Int32 → Nat → Int32 → Int32 → am_M → Option (Int32)) (M : am_M) (a0 : Nat) (a1 : Int32) (a2 : Int32) (a3 : Int32) : Option (Int32) := rc 0 a0 a1 a2 a3 (0 : Int32) (0 : Int32) (0 : Int32) (0 : Int32) 0 0 0 M
def f_Sharing_timesMet (M : am_M) (a0 : Nat) (a1 : Int32) (a2 : Int32) (a3 : Int32) : Option (Int32) := e_Sharing_timesMet (g_Sharing_timesMet 1000000000) M a0 a1 a2 a3
theorem kV_Sharing_164 : am_kV "CrewOffice$Sharing" 164 4 y_Work_hasFlight u_Work_hasFlight 1 := ⟨List.mem_of_getElem? (i := 938) (by decide +kernel), ⟨List.mem_of_getElem? (i := 939) (by decide +kernel), List.mem_of_getElem? (i := 940) (by decide +kernel)⟩, List.mem_of_getElem? (i := 61) (by decide +kernel), w_Work_hasFlight, ⟨⟨by decide +kernel, by decide +kernel⟩, by decide +kernel⟩⟩
theorem kV_Sharing_168 : am_kV "CrewOffice$Sharing" 168 4 y_Work_arrivalsAt u_Work_arrivalsAt 2 := ⟨List.mem_of_getElem? (i := 942) (by decide +kernel), ⟨List.mem_of_getElem? (i := 943) (by decide +kernel), List.mem_of_getElem? (i := 944) (by decide +kernel)⟩, List.mem_of_getElem? (i := 61) (by decide +kernel), w_Work_arrivalsAt, ⟨⟨by decide +kernel, by decide +kernel⟩, by decide +kernel⟩⟩
theorem kV_Sharing_172 : am_kV "CrewOffice$Sharing" 172 4 y_Work_touchesDay u_Work_touchesDay 1 := ⟨List.mem_of_getElem? (i := 946) (by decide +kernel), ⟨List.mem_of_getElem? (i := 947) (by decide +kernel), List.mem_of_getElem? (i := 948) (by decide +kernel)⟩, List.mem_of_getElem? (i := 61) (by decide +kernel), w_Work_touchesDay, ⟨⟨by decide +kernel, by decide +kernel⟩, by decide +kernel⟩⟩
set_option maxHeartbeats 4000000 in
theorem s_Sharing_timesMet_0 {rc : Nat → Nat → Int32 → Int32 → Int32 → Int32 → Int32 → Int32 → Int32 → Nat → Int32 → Int32 → am_M → Option (Int32)} {res : Int32} (ih_0 : ∀ (r0 : Nat) (x1 : Int32) (x2 : Int32) (x3 : Int32) (x4 : Int32) (x5 : Int32) (x6 : Int32) (x7 : Int32) (r8 : Nat) (s0 : Int32) (s1 : Int32) (M : am_M), rc 0 r0 x1 x2 x3 x4 x5 x6 x7 r8 s0 s1 M = some res → AW u_Sharing_timesMet R_Sharing_timesMet 0 0 12 [(0, .ref r0), (1, .int x1), (2, .int x2), (3, .int x3), (4, .int x4), (5, .int x5), (6, .int x6), (7, .int x7)] [] M (fun r M2 => r = .inl (some (.int res)) ∧ M2 = M)) (ih_1 : ∀ (r0 : Nat) (x1 : Int32) (x2 : Int32) (x3 : Int32) (x4 : Int32) (x5 : Int32) (x6 : Int32) (x7 : Int32) (r8 : Nat) (s0 : Int32) (s1 : Int32) (M : am_M), rc 1 r0 x1 x2 x3 x4 x5 x6 x7 r8 s0 s1 M = some res → AW u_Sharing_timesMet R_Sharing_timesMet 0 0 61 [(0, .ref r0), (1, .int x1), (2, .int x2), (3, .int x3), (5, .int x5), (6, .int x6), (7, .int x7), (8, .ref r8)] [.int s0] M (fun r M2 => r = .inl (some (.int res)) ∧ M2 = M)) (ih_2 : ∀ (r0 : Nat) (x1 : Int32) (x2 : Int32) (x3 : Int32) (x4 : Int32) (x5 : Int32) (x6 : Int32) (x7 : Int32) (r8 : Nat) (s0 : Int32) (s1 : Int32) (M : am_M), rc 2 r0 x1 x2 x3 x4 x5 x6 x7 r8 s0 s1 M = some res → AW u_Sharing_timesMet R_Sharing_timesMet 0 0 62 [(0, .ref r0), (1, .int x1), (2, .int x2), (3, .int x3), (5, .int x5), (6, .int x6), (7, .int x7), (8, .ref r8)] [.int s0, .int s1] M (fun r M2 => r = .inl (some (.int res)) ∧ M2 = M)) (ih_3 : ∀ (r0 : Nat) (x1 : Int32) (x2 : Int32) (x3 : Int32) (x4 : Int32) (x5 : Int32) (x6 : Int32) (x7 : Int32) (r8 : Nat) (s0 : Int32) (s1 : Int32) (M : am_M), rc 3 r0 x1 x2 x3 x4 x5 x6 x7 r8 s0 s1 M = some res → AW u_Sharing_timesMet R_Sharing_timesMet 0 0 86 [(0, .ref r0), (1, .int x1), (2, .int x2), (3, .int x3), (4, .int x4), (6, .int x6), (7, .int x7), (8, .ref r8)] [.int s0, .int s1] M (fun r M2 => r = .inl (some (.int res)) ∧ M2 = M)) (ih_4 : ∀ (r0 : Nat) (x1 : Int32) (x2 : Int32) (x3 : Int32) (x4 : Int32) (x5 : Int32) (x6 : Int32) (x7 : Int32) (r8 : Nat) (s0 : Int32) (s1 : Int32) (M : am_M), rc 4 r0 x1 x2 x3 x4 x5 x6 x7 r8 s0 s1 M = some res → AW u_Sharing_timesMet R_Sharing_timesMet 0 0 109 [(0, .ref r0), (1, .int x1), (2, .int x2), (3, .int x3), (4, .int x4), (5, .int x5), (7, .int x7)] [.int s0] M (fun r M2 => r = .inl (some (.int res)) ∧ M2 = M)) (ih_5 : ∀ (r0 : Nat) (x1 : Int32) (x2 : Int32) (x3 : Int32) (x4 : Int32) (x5 : Int32) (x6 : Int32) (x7 : Int32) (r8 : Nat) (s0 : Int32) (s1 : Int32) (M : am_M), rc 5 r0 x1 x2 x3 x4 x5 x6 x7 r8 s0 s1 M = some res → AW u_Sharing_timesMet R_Sharing_timesMet 0 0 110 [(0, .ref r0), (1, .int x1), (2, .int x2), (3, .int x3), (4, .int x4), (5, .int x5), (7, .int x7)] [.int s0, .int s1] M (fun r M2 => r = .inl (some (.int res)) ∧ M2 = M)) (ih_6 : ∀ (r0 : Nat) (x1 : Int32) (x2 : Int32) (x3 : Int32) (x4 : Int32) (x5 : Int32) (x6 : Int32) (x7 : Int32) (r8 : Nat) (s0 : Int32) (s1 : Int32) (M : am_M), rc 6 r0 x1 x2 x3 x4 x5 x6 x7 r8 s0 s1 M = some res → AW u_Sharing_timesMet R_Sharing_timesMet 0 0 113 [(0, .ref r0), (1, .int x1), (2, .int x2), (3, .int x3), (4, .int x4), (5, .int x5), (6, .int x6), (7, .int x7)] [] M (fun r M2 => r = .inl (some (.int res)) ∧ M2 = M)) : ∀ (r0 : Nat) (x1 : Int32) (x2 : Int32) (x3 : Int32) (x4 : Int32) (x5 : Int32) (x6 : Int32) (x7 : Int32) (r8 : Nat) (s0 : Int32) (s1 : Int32) (M : am_M), a_Sharing_timesMet_0 rc r0 x1 x2 x3 x4 x5 x6 x7 r8 s0 s1 M = some res → AW u_Sharing_timesMet R_Sharing_timesMet 0 0 12 [(0, .ref r0), (1, .int x1), (2, .int x2), (3, .int x3), (4, .int x4), (5, .int x5), (6, .int x6), (7, .int x7)] [] M (fun r M2 => r = .inl (some (.int res)) ∧ M2 = M) := by
  intro r0 x1 x2 x3 x4 x5 x6 x7 r8 s0 s1 M h
  unfold a_Sharing_timesMet_0 at h
  refine aw_iload d_Sharing_timesMet_12 rfl ?_
  refine aw_aload_n d_Sharing_timesMet_14 rfl rfl ?_
  obtain ⟨t15, e_t15, h⟩ := q_bind h
  refine aw_gtr d_Sharing_timesMet_15 fl_Sharing_35 (Or.inl ⟨_, rfl⟩) e_t15 ?_
  obtain ⟨t18, e_t18, h⟩ := q_bind h
  refine aw_gti d_Sharing_timesMet_18 fl_Sharing_77 (Or.inl rfl) e_t18 ?_
  refine aw_icmp_ge (tgt := 119) d_Sharing_timesMet_21 (by decide) (fun hc => ?_) (fun hc => ?_)
  · rw [if_pos hc] at h
    refine aw_iload_n d_Sharing_timesMet_119 rfl rfl ?_
    by_cases c120_0 : x1 = (0 : Int32)
    · rw [if_pos c120_0] at h
      have hx : (x1).toInt = (0 : Int) := by rw [c120_0]; rfl
      refine aw_lookup (off := 28) (tgt := 148) d_Sharing_timesMet_120 (by decide) (by rw [hx]; rfl) (by decide) ?_
      refine aw_iload d_Sharing_timesMet_148 rfl ?_
      refine aw_if_le (tgt := 157) d_Sharing_timesMet_150 (by decide) (fun hc => ?_) (fun hc => ?_)
      · rw [if_pos hc] at h
        refine aw_iconst (v := 0) d_Sharing_timesMet_157 (by decide) ?_
        cases h
        exact aw_ireturn d_Sharing_timesMet_158 rfl (Nat.le_of_ble_eq_true rfl) (Nat.le_of_ble_eq_true rfl) ⟨rfl, rfl⟩
      · rw [if_neg hc] at h
        refine aw_iconst (v := 1) d_Sharing_timesMet_153 (by decide) ?_
        refine aw_goto (tgt := 158) d_Sharing_timesMet_154 (by decide) ?_
        cases h
        exact aw_ireturn d_Sharing_timesMet_158 rfl (Nat.le_of_ble_eq_true rfl) (Nat.le_of_ble_eq_true rfl) ⟨rfl, rfl⟩
    rw [if_neg c120_0] at h
    by_cases c120_1 : x1 = (1 : Int32)
    · rw [if_pos c120_1] at h
      have hx : (x1).toInt = (1 : Int) := by rw [c120_1]; rfl
      refine aw_lookup (off := 39) (tgt := 159) d_Sharing_timesMet_120 (by decide) (by rw [hx]; rfl) (by decide) ?_
      refine aw_iload d_Sharing_timesMet_159 rfl ?_
      cases h
      exact aw_ireturn d_Sharing_timesMet_161 rfl (Nat.le_of_ble_eq_true rfl) (Nat.le_of_ble_eq_true rfl) ⟨rfl, rfl⟩
    rw [if_neg c120_1] at h
    refine aw_lookup (off := 42) (tgt := 162) d_Sharing_timesMet_120 (by decide) (by show Op.lookupswitch.offset [(0, 28), (1, 39)] _ _ = _; rw [lv_osw (a := 0) c120_0 rfl]; rw [lv_osw (a := 1) c120_1 rfl]; rfl) (by decide) ?_
    refine aw_iload d_Sharing_timesMet_162 rfl ?_
    refine aw_if_ne (tgt := 171) d_Sharing_timesMet_164 (by decide) (fun hc => ?_) (fun hc => ?_)
    · rw [if_neg hc] at h
      refine aw_iconst (v := 0) d_Sharing_timesMet_171 (by decide) ?_
      cases h
      exact aw_ireturn d_Sharing_timesMet_172 rfl (Nat.le_of_ble_eq_true rfl) (Nat.le_of_ble_eq_true rfl) ⟨rfl, rfl⟩
    · rw [if_pos hc] at h
      refine aw_iconst (v := 1) d_Sharing_timesMet_167 (by decide) ?_
      refine aw_goto (tgt := 172) d_Sharing_timesMet_168 (by decide) ?_
      cases h
      exact aw_ireturn d_Sharing_timesMet_172 rfl (Nat.le_of_ble_eq_true rfl) (Nat.le_of_ble_eq_true rfl) ⟨rfl, rfl⟩
  · rw [if_neg hc] at h
    refine aw_iload_n d_Sharing_timesMet_24 rfl rfl ?_
    refine aw_iload d_Sharing_timesMet_25 rfl ?_
    obtain ⟨t27, e_t27, h⟩ := q_bind h
    refine aw_cS (v := (some (.int t27))) (As := [.int x7]) (rest := [.int x3]) (st' := [.int t27, .int x3]) d_Sharing_timesMet_27 kS_Sharing_56 ⟨Nat.le_of_ble_eq_true rfl, Nat.le_of_ble_eq_true rfl, Nat.le_of_ble_eq_true rfl, Nat.le_of_ble_eq_true rfl⟩ rfl rfl (Nat.le_of_ble_eq_true rfl) rfl (mt_Sharing_bitOf e_t27) ?_
    refine aw_iand d_Sharing_timesMet_30 ?_
    refine aw_if_eq (tgt := 113) d_Sharing_timesMet_31 (by decide) (fun hc => ?_) (fun hc => ?_)
    · rw [if_pos hc] at h
      exact aw_pick [0, 1, 2, 3, 4, 5, 6, 7] rfl (ih_6 _ _ _ _ _ _ _ _ _ _ _ _ h)
    · rw [if_neg hc] at h
      refine aw_aload_n d_Sharing_timesMet_34 rfl rfl ?_
      refine aw_iload d_Sharing_timesMet_35 rfl ?_
      obtain ⟨o37, e_o37, h⟩ := q_bind h
      obtain ⟨t37, e_t37, h⟩ := q_bind h
      refine aw_cV (v := (some (.ref t37))) (As := [.int x7]) (rest := []) (st' := [.ref t37]) d_Sharing_timesMet_37 kV_Sharing_103 (q_ob_spec e_o37).1 (q_ob_spec e_o37).2 ⟨Nat.le_of_ble_eq_true rfl, Nat.le_of_ble_eq_true rfl, Nat.le_of_ble_eq_true rfl, Nat.le_of_ble_eq_true rfl⟩ rfl rfl (Nat.le_of_ble_eq_true rfl) rfl (mt_Sharing_workAt e_t37) ?_
      refine aw_astore (ls' := [(8, .ref _), (0, .ref _), (1, .int _), (2, .int _), (3, .int _), (4, .int _), (5, .int _), (6, .int _), (7, .int _)]) d_Sharing_timesMet_40 (Nat.le_of_ble_eq_true rfl) rfl ?_
      refine aw_iload d_Sharing_timesMet_42 rfl ?_
      refine aw_iload_n d_Sharing_timesMet_44 rfl rfl ?_
      refine aw_if_ne (tgt := 61) d_Sharing_timesMet_45 (by decide) (fun hc => ?_) (fun hc => ?_)
      · rw [if_neg hc] at h
        exact aw_pick [1, 2, 3, 4, 6, 7, 8, 0] rfl (ih_1 _ _ _ _ _ _ _ _ _ _ _ _ h)
      · rw [if_pos hc] at h
        refine aw_aload d_Sharing_timesMet_48 rfl ?_
        refine aw_iload_n d_Sharing_timesMet_50 rfl rfl ?_
        obtain ⟨o51, e_o51, h⟩ := q_bind h
        obtain ⟨t51, e_t51, h⟩ := q_bind h
        refine aw_cV (v := (some (.int t51))) (As := [.int x2]) (rest := [.int x4]) (st' := [.int t51, .int x4]) d_Sharing_timesMet_51 kV_Sharing_164 (q_ob_spec e_o51).1 (q_ob_spec e_o51).2 ⟨Nat.le_of_ble_eq_true rfl, Nat.le_of_ble_eq_true rfl, Nat.le_of_ble_eq_true rfl, Nat.le_of_ble_eq_true rfl⟩ rfl rfl (Nat.le_of_ble_eq_true rfl) rfl (mt_Work_hasFlight e_t51) ?_
        refine aw_if_eq (tgt := 61) d_Sharing_timesMet_54 (by decide) (fun hc => ?_) (fun hc => ?_)
        · rw [if_pos hc] at h
          exact aw_pick [1, 2, 3, 4, 6, 7, 8, 0] rfl (ih_1 _ _ _ _ _ _ _ _ _ _ _ _ h)
        · rw [if_neg hc] at h
          refine aw_iconst (v := 1) d_Sharing_timesMet_57 (by decide) ?_
          refine aw_goto (tgt := 62) d_Sharing_timesMet_58 (by decide) ?_
          exact aw_pick [1, 2, 3, 4, 6, 7, 8, 0] rfl (ih_2 _ _ _ _ _ _ _ _ _ _ _ _ h)
set_option maxHeartbeats 4000000 in
theorem s_Sharing_timesMet_1 {rc : Nat → Nat → Int32 → Int32 → Int32 → Int32 → Int32 → Int32 → Int32 → Nat → Int32 → Int32 → am_M → Option (Int32)} {res : Int32} (ih_0 : ∀ (r0 : Nat) (x1 : Int32) (x2 : Int32) (x3 : Int32) (x4 : Int32) (x5 : Int32) (x6 : Int32) (x7 : Int32) (r8 : Nat) (s0 : Int32) (s1 : Int32) (M : am_M), rc 0 r0 x1 x2 x3 x4 x5 x6 x7 r8 s0 s1 M = some res → AW u_Sharing_timesMet R_Sharing_timesMet 0 0 12 [(0, .ref r0), (1, .int x1), (2, .int x2), (3, .int x3), (4, .int x4), (5, .int x5), (6, .int x6), (7, .int x7)] [] M (fun r M2 => r = .inl (some (.int res)) ∧ M2 = M)) (ih_1 : ∀ (r0 : Nat) (x1 : Int32) (x2 : Int32) (x3 : Int32) (x4 : Int32) (x5 : Int32) (x6 : Int32) (x7 : Int32) (r8 : Nat) (s0 : Int32) (s1 : Int32) (M : am_M), rc 1 r0 x1 x2 x3 x4 x5 x6 x7 r8 s0 s1 M = some res → AW u_Sharing_timesMet R_Sharing_timesMet 0 0 61 [(0, .ref r0), (1, .int x1), (2, .int x2), (3, .int x3), (5, .int x5), (6, .int x6), (7, .int x7), (8, .ref r8)] [.int s0] M (fun r M2 => r = .inl (some (.int res)) ∧ M2 = M)) (ih_2 : ∀ (r0 : Nat) (x1 : Int32) (x2 : Int32) (x3 : Int32) (x4 : Int32) (x5 : Int32) (x6 : Int32) (x7 : Int32) (r8 : Nat) (s0 : Int32) (s1 : Int32) (M : am_M), rc 2 r0 x1 x2 x3 x4 x5 x6 x7 r8 s0 s1 M = some res → AW u_Sharing_timesMet R_Sharing_timesMet 0 0 62 [(0, .ref r0), (1, .int x1), (2, .int x2), (3, .int x3), (5, .int x5), (6, .int x6), (7, .int x7), (8, .ref r8)] [.int s0, .int s1] M (fun r M2 => r = .inl (some (.int res)) ∧ M2 = M)) (ih_3 : ∀ (r0 : Nat) (x1 : Int32) (x2 : Int32) (x3 : Int32) (x4 : Int32) (x5 : Int32) (x6 : Int32) (x7 : Int32) (r8 : Nat) (s0 : Int32) (s1 : Int32) (M : am_M), rc 3 r0 x1 x2 x3 x4 x5 x6 x7 r8 s0 s1 M = some res → AW u_Sharing_timesMet R_Sharing_timesMet 0 0 86 [(0, .ref r0), (1, .int x1), (2, .int x2), (3, .int x3), (4, .int x4), (6, .int x6), (7, .int x7), (8, .ref r8)] [.int s0, .int s1] M (fun r M2 => r = .inl (some (.int res)) ∧ M2 = M)) (ih_4 : ∀ (r0 : Nat) (x1 : Int32) (x2 : Int32) (x3 : Int32) (x4 : Int32) (x5 : Int32) (x6 : Int32) (x7 : Int32) (r8 : Nat) (s0 : Int32) (s1 : Int32) (M : am_M), rc 4 r0 x1 x2 x3 x4 x5 x6 x7 r8 s0 s1 M = some res → AW u_Sharing_timesMet R_Sharing_timesMet 0 0 109 [(0, .ref r0), (1, .int x1), (2, .int x2), (3, .int x3), (4, .int x4), (5, .int x5), (7, .int x7)] [.int s0] M (fun r M2 => r = .inl (some (.int res)) ∧ M2 = M)) (ih_5 : ∀ (r0 : Nat) (x1 : Int32) (x2 : Int32) (x3 : Int32) (x4 : Int32) (x5 : Int32) (x6 : Int32) (x7 : Int32) (r8 : Nat) (s0 : Int32) (s1 : Int32) (M : am_M), rc 5 r0 x1 x2 x3 x4 x5 x6 x7 r8 s0 s1 M = some res → AW u_Sharing_timesMet R_Sharing_timesMet 0 0 110 [(0, .ref r0), (1, .int x1), (2, .int x2), (3, .int x3), (4, .int x4), (5, .int x5), (7, .int x7)] [.int s0, .int s1] M (fun r M2 => r = .inl (some (.int res)) ∧ M2 = M)) (ih_6 : ∀ (r0 : Nat) (x1 : Int32) (x2 : Int32) (x3 : Int32) (x4 : Int32) (x5 : Int32) (x6 : Int32) (x7 : Int32) (r8 : Nat) (s0 : Int32) (s1 : Int32) (M : am_M), rc 6 r0 x1 x2 x3 x4 x5 x6 x7 r8 s0 s1 M = some res → AW u_Sharing_timesMet R_Sharing_timesMet 0 0 113 [(0, .ref r0), (1, .int x1), (2, .int x2), (3, .int x3), (4, .int x4), (5, .int x5), (6, .int x6), (7, .int x7)] [] M (fun r M2 => r = .inl (some (.int res)) ∧ M2 = M)) : ∀ (r0 : Nat) (x1 : Int32) (x2 : Int32) (x3 : Int32) (x4 : Int32) (x5 : Int32) (x6 : Int32) (x7 : Int32) (r8 : Nat) (s0 : Int32) (s1 : Int32) (M : am_M), a_Sharing_timesMet_1 rc r0 x1 x2 x3 x4 x5 x6 x7 r8 s0 s1 M = some res → AW u_Sharing_timesMet R_Sharing_timesMet 0 0 61 [(0, .ref r0), (1, .int x1), (2, .int x2), (3, .int x3), (5, .int x5), (6, .int x6), (7, .int x7), (8, .ref r8)] [.int s0] M (fun r M2 => r = .inl (some (.int res)) ∧ M2 = M) := by
  intro r0 x1 x2 x3 x4 x5 x6 x7 r8 s0 s1 M h
  unfold a_Sharing_timesMet_1 at h
  refine aw_iconst (v := 0) d_Sharing_timesMet_61 (by decide) ?_
  exact aw_pick [0, 1, 2, 3, 4, 5, 6, 7] rfl (ih_2 _ _ _ _ _ _ _ _ _ _ _ _ h)
set_option maxHeartbeats 4000000 in
theorem s_Sharing_timesMet_2 {rc : Nat → Nat → Int32 → Int32 → Int32 → Int32 → Int32 → Int32 → Int32 → Nat → Int32 → Int32 → am_M → Option (Int32)} {res : Int32} (ih_0 : ∀ (r0 : Nat) (x1 : Int32) (x2 : Int32) (x3 : Int32) (x4 : Int32) (x5 : Int32) (x6 : Int32) (x7 : Int32) (r8 : Nat) (s0 : Int32) (s1 : Int32) (M : am_M), rc 0 r0 x1 x2 x3 x4 x5 x6 x7 r8 s0 s1 M = some res → AW u_Sharing_timesMet R_Sharing_timesMet 0 0 12 [(0, .ref r0), (1, .int x1), (2, .int x2), (3, .int x3), (4, .int x4), (5, .int x5), (6, .int x6), (7, .int x7)] [] M (fun r M2 => r = .inl (some (.int res)) ∧ M2 = M)) (ih_1 : ∀ (r0 : Nat) (x1 : Int32) (x2 : Int32) (x3 : Int32) (x4 : Int32) (x5 : Int32) (x6 : Int32) (x7 : Int32) (r8 : Nat) (s0 : Int32) (s1 : Int32) (M : am_M), rc 1 r0 x1 x2 x3 x4 x5 x6 x7 r8 s0 s1 M = some res → AW u_Sharing_timesMet R_Sharing_timesMet 0 0 61 [(0, .ref r0), (1, .int x1), (2, .int x2), (3, .int x3), (5, .int x5), (6, .int x6), (7, .int x7), (8, .ref r8)] [.int s0] M (fun r M2 => r = .inl (some (.int res)) ∧ M2 = M)) (ih_2 : ∀ (r0 : Nat) (x1 : Int32) (x2 : Int32) (x3 : Int32) (x4 : Int32) (x5 : Int32) (x6 : Int32) (x7 : Int32) (r8 : Nat) (s0 : Int32) (s1 : Int32) (M : am_M), rc 2 r0 x1 x2 x3 x4 x5 x6 x7 r8 s0 s1 M = some res → AW u_Sharing_timesMet R_Sharing_timesMet 0 0 62 [(0, .ref r0), (1, .int x1), (2, .int x2), (3, .int x3), (5, .int x5), (6, .int x6), (7, .int x7), (8, .ref r8)] [.int s0, .int s1] M (fun r M2 => r = .inl (some (.int res)) ∧ M2 = M)) (ih_3 : ∀ (r0 : Nat) (x1 : Int32) (x2 : Int32) (x3 : Int32) (x4 : Int32) (x5 : Int32) (x6 : Int32) (x7 : Int32) (r8 : Nat) (s0 : Int32) (s1 : Int32) (M : am_M), rc 3 r0 x1 x2 x3 x4 x5 x6 x7 r8 s0 s1 M = some res → AW u_Sharing_timesMet R_Sharing_timesMet 0 0 86 [(0, .ref r0), (1, .int x1), (2, .int x2), (3, .int x3), (4, .int x4), (6, .int x6), (7, .int x7), (8, .ref r8)] [.int s0, .int s1] M (fun r M2 => r = .inl (some (.int res)) ∧ M2 = M)) (ih_4 : ∀ (r0 : Nat) (x1 : Int32) (x2 : Int32) (x3 : Int32) (x4 : Int32) (x5 : Int32) (x6 : Int32) (x7 : Int32) (r8 : Nat) (s0 : Int32) (s1 : Int32) (M : am_M), rc 4 r0 x1 x2 x3 x4 x5 x6 x7 r8 s0 s1 M = some res → AW u_Sharing_timesMet R_Sharing_timesMet 0 0 109 [(0, .ref r0), (1, .int x1), (2, .int x2), (3, .int x3), (4, .int x4), (5, .int x5), (7, .int x7)] [.int s0] M (fun r M2 => r = .inl (some (.int res)) ∧ M2 = M)) (ih_5 : ∀ (r0 : Nat) (x1 : Int32) (x2 : Int32) (x3 : Int32) (x4 : Int32) (x5 : Int32) (x6 : Int32) (x7 : Int32) (r8 : Nat) (s0 : Int32) (s1 : Int32) (M : am_M), rc 5 r0 x1 x2 x3 x4 x5 x6 x7 r8 s0 s1 M = some res → AW u_Sharing_timesMet R_Sharing_timesMet 0 0 110 [(0, .ref r0), (1, .int x1), (2, .int x2), (3, .int x3), (4, .int x4), (5, .int x5), (7, .int x7)] [.int s0, .int s1] M (fun r M2 => r = .inl (some (.int res)) ∧ M2 = M)) (ih_6 : ∀ (r0 : Nat) (x1 : Int32) (x2 : Int32) (x3 : Int32) (x4 : Int32) (x5 : Int32) (x6 : Int32) (x7 : Int32) (r8 : Nat) (s0 : Int32) (s1 : Int32) (M : am_M), rc 6 r0 x1 x2 x3 x4 x5 x6 x7 r8 s0 s1 M = some res → AW u_Sharing_timesMet R_Sharing_timesMet 0 0 113 [(0, .ref r0), (1, .int x1), (2, .int x2), (3, .int x3), (4, .int x4), (5, .int x5), (6, .int x6), (7, .int x7)] [] M (fun r M2 => r = .inl (some (.int res)) ∧ M2 = M)) : ∀ (r0 : Nat) (x1 : Int32) (x2 : Int32) (x3 : Int32) (x4 : Int32) (x5 : Int32) (x6 : Int32) (x7 : Int32) (r8 : Nat) (s0 : Int32) (s1 : Int32) (M : am_M), a_Sharing_timesMet_2 rc r0 x1 x2 x3 x4 x5 x6 x7 r8 s0 s1 M = some res → AW u_Sharing_timesMet R_Sharing_timesMet 0 0 62 [(0, .ref r0), (1, .int x1), (2, .int x2), (3, .int x3), (5, .int x5), (6, .int x6), (7, .int x7), (8, .ref r8)] [.int s0, .int s1] M (fun r M2 => r = .inl (some (.int res)) ∧ M2 = M) := by
  intro r0 x1 x2 x3 x4 x5 x6 x7 r8 s0 s1 M h
  unfold a_Sharing_timesMet_2 at h
  refine aw_iadd d_Sharing_timesMet_62 ?_
  refine aw_istore (ls' := [(4, .int _), (0, .ref _), (1, .int _), (2, .int _), (3, .int _), (5, .int _), (6, .int _), (7, .int _), (8, .ref _)]) d_Sharing_timesMet_63 (Nat.le_of_ble_eq_true rfl) rfl ?_
  refine aw_iload d_Sharing_timesMet_65 rfl ?_
  refine aw_iload_n d_Sharing_timesMet_67 rfl rfl ?_
  refine aw_iconst (v := 1) d_Sharing_timesMet_68 (by decide) ?_
  refine aw_icmp_ne (tgt := 85) d_Sharing_timesMet_69 (by decide) (fun hc => ?_) (fun hc => ?_)
  · rw [if_neg hc] at h
    refine aw_iconst (v := 0) d_Sharing_timesMet_85 (by decide) ?_
    exact aw_pick [1, 2, 3, 4, 0, 6, 7, 8] rfl (ih_3 _ _ _ _ _ _ _ _ _ _ _ _ h)
  · rw [if_pos hc] at h
    refine aw_aload d_Sharing_timesMet_72 rfl ?_
    refine aw_iload_n d_Sharing_timesMet_74 rfl rfl ?_
    refine aw_aload_n d_Sharing_timesMet_75 rfl rfl ?_
    obtain ⟨t76, e_t76, h⟩ := q_bind h
    refine aw_gtr d_Sharing_timesMet_76 fl_Sharing_27 (Or.inl ⟨_, rfl⟩) e_t76 ?_
    obtain ⟨o79, e_o79, h⟩ := q_bind h
    obtain ⟨t79, e_t79, h⟩ := q_bind h
    refine aw_cV (v := (some (.int t79))) (As := [.int x2, .ref t76]) (rest := [.int x5]) (st' := [.int t79, .int x5]) d_Sharing_timesMet_79 kV_Sharing_168 (q_ob_spec e_o79).1 (q_ob_spec e_o79).2 ⟨Nat.le_of_ble_eq_true rfl, Nat.le_of_ble_eq_true rfl, Nat.le_of_ble_eq_true rfl, Nat.le_of_ble_eq_true rfl⟩ rfl rfl (Nat.le_of_ble_eq_true rfl) rfl (mt_Work_arrivalsAt e_t79) ?_
    refine aw_goto (tgt := 86) d_Sharing_timesMet_82 (by decide) ?_
    exact aw_pick [1, 2, 3, 4, 0, 6, 7, 8] rfl (ih_3 _ _ _ _ _ _ _ _ _ _ _ _ h)
set_option maxHeartbeats 4000000 in
theorem s_Sharing_timesMet_3 {rc : Nat → Nat → Int32 → Int32 → Int32 → Int32 → Int32 → Int32 → Int32 → Nat → Int32 → Int32 → am_M → Option (Int32)} {res : Int32} (ih_0 : ∀ (r0 : Nat) (x1 : Int32) (x2 : Int32) (x3 : Int32) (x4 : Int32) (x5 : Int32) (x6 : Int32) (x7 : Int32) (r8 : Nat) (s0 : Int32) (s1 : Int32) (M : am_M), rc 0 r0 x1 x2 x3 x4 x5 x6 x7 r8 s0 s1 M = some res → AW u_Sharing_timesMet R_Sharing_timesMet 0 0 12 [(0, .ref r0), (1, .int x1), (2, .int x2), (3, .int x3), (4, .int x4), (5, .int x5), (6, .int x6), (7, .int x7)] [] M (fun r M2 => r = .inl (some (.int res)) ∧ M2 = M)) (ih_1 : ∀ (r0 : Nat) (x1 : Int32) (x2 : Int32) (x3 : Int32) (x4 : Int32) (x5 : Int32) (x6 : Int32) (x7 : Int32) (r8 : Nat) (s0 : Int32) (s1 : Int32) (M : am_M), rc 1 r0 x1 x2 x3 x4 x5 x6 x7 r8 s0 s1 M = some res → AW u_Sharing_timesMet R_Sharing_timesMet 0 0 61 [(0, .ref r0), (1, .int x1), (2, .int x2), (3, .int x3), (5, .int x5), (6, .int x6), (7, .int x7), (8, .ref r8)] [.int s0] M (fun r M2 => r = .inl (some (.int res)) ∧ M2 = M)) (ih_2 : ∀ (r0 : Nat) (x1 : Int32) (x2 : Int32) (x3 : Int32) (x4 : Int32) (x5 : Int32) (x6 : Int32) (x7 : Int32) (r8 : Nat) (s0 : Int32) (s1 : Int32) (M : am_M), rc 2 r0 x1 x2 x3 x4 x5 x6 x7 r8 s0 s1 M = some res → AW u_Sharing_timesMet R_Sharing_timesMet 0 0 62 [(0, .ref r0), (1, .int x1), (2, .int x2), (3, .int x3), (5, .int x5), (6, .int x6), (7, .int x7), (8, .ref r8)] [.int s0, .int s1] M (fun r M2 => r = .inl (some (.int res)) ∧ M2 = M)) (ih_3 : ∀ (r0 : Nat) (x1 : Int32) (x2 : Int32) (x3 : Int32) (x4 : Int32) (x5 : Int32) (x6 : Int32) (x7 : Int32) (r8 : Nat) (s0 : Int32) (s1 : Int32) (M : am_M), rc 3 r0 x1 x2 x3 x4 x5 x6 x7 r8 s0 s1 M = some res → AW u_Sharing_timesMet R_Sharing_timesMet 0 0 86 [(0, .ref r0), (1, .int x1), (2, .int x2), (3, .int x3), (4, .int x4), (6, .int x6), (7, .int x7), (8, .ref r8)] [.int s0, .int s1] M (fun r M2 => r = .inl (some (.int res)) ∧ M2 = M)) (ih_4 : ∀ (r0 : Nat) (x1 : Int32) (x2 : Int32) (x3 : Int32) (x4 : Int32) (x5 : Int32) (x6 : Int32) (x7 : Int32) (r8 : Nat) (s0 : Int32) (s1 : Int32) (M : am_M), rc 4 r0 x1 x2 x3 x4 x5 x6 x7 r8 s0 s1 M = some res → AW u_Sharing_timesMet R_Sharing_timesMet 0 0 109 [(0, .ref r0), (1, .int x1), (2, .int x2), (3, .int x3), (4, .int x4), (5, .int x5), (7, .int x7)] [.int s0] M (fun r M2 => r = .inl (some (.int res)) ∧ M2 = M)) (ih_5 : ∀ (r0 : Nat) (x1 : Int32) (x2 : Int32) (x3 : Int32) (x4 : Int32) (x5 : Int32) (x6 : Int32) (x7 : Int32) (r8 : Nat) (s0 : Int32) (s1 : Int32) (M : am_M), rc 5 r0 x1 x2 x3 x4 x5 x6 x7 r8 s0 s1 M = some res → AW u_Sharing_timesMet R_Sharing_timesMet 0 0 110 [(0, .ref r0), (1, .int x1), (2, .int x2), (3, .int x3), (4, .int x4), (5, .int x5), (7, .int x7)] [.int s0, .int s1] M (fun r M2 => r = .inl (some (.int res)) ∧ M2 = M)) (ih_6 : ∀ (r0 : Nat) (x1 : Int32) (x2 : Int32) (x3 : Int32) (x4 : Int32) (x5 : Int32) (x6 : Int32) (x7 : Int32) (r8 : Nat) (s0 : Int32) (s1 : Int32) (M : am_M), rc 6 r0 x1 x2 x3 x4 x5 x6 x7 r8 s0 s1 M = some res → AW u_Sharing_timesMet R_Sharing_timesMet 0 0 113 [(0, .ref r0), (1, .int x1), (2, .int x2), (3, .int x3), (4, .int x4), (5, .int x5), (6, .int x6), (7, .int x7)] [] M (fun r M2 => r = .inl (some (.int res)) ∧ M2 = M)) : ∀ (r0 : Nat) (x1 : Int32) (x2 : Int32) (x3 : Int32) (x4 : Int32) (x5 : Int32) (x6 : Int32) (x7 : Int32) (r8 : Nat) (s0 : Int32) (s1 : Int32) (M : am_M), a_Sharing_timesMet_3 rc r0 x1 x2 x3 x4 x5 x6 x7 r8 s0 s1 M = some res → AW u_Sharing_timesMet R_Sharing_timesMet 0 0 86 [(0, .ref r0), (1, .int x1), (2, .int x2), (3, .int x3), (4, .int x4), (6, .int x6), (7, .int x7), (8, .ref r8)] [.int s0, .int s1] M (fun r M2 => r = .inl (some (.int res)) ∧ M2 = M) := by
  intro r0 x1 x2 x3 x4 x5 x6 x7 r8 s0 s1 M h
  unfold a_Sharing_timesMet_3 at h
  refine aw_iadd d_Sharing_timesMet_86 ?_
  refine aw_istore (ls' := [(5, .int _), (0, .ref _), (1, .int _), (2, .int _), (3, .int _), (4, .int _), (6, .int _), (7, .int _), (8, .ref _)]) d_Sharing_timesMet_87 (Nat.le_of_ble_eq_true rfl) rfl ?_
  refine aw_iload d_Sharing_timesMet_89 rfl ?_
  refine aw_iload_n d_Sharing_timesMet_91 rfl rfl ?_
  refine aw_iconst (v := 2) d_Sharing_timesMet_92 (by decide) ?_
  refine aw_icmp_ne (tgt := 109) d_Sharing_timesMet_93 (by decide) (fun hc => ?_) (fun hc => ?_)
  · rw [if_neg hc] at h
    exact aw_pick [1, 2, 3, 4, 5, 0, 7] rfl (ih_4 _ _ _ _ _ _ _ _ _ _ _ _ h)
  · rw [if_pos hc] at h
    refine aw_aload d_Sharing_timesMet_96 rfl ?_
    refine aw_iload_n d_Sharing_timesMet_98 rfl rfl ?_
    obtain ⟨o99, e_o99, h⟩ := q_bind h
    obtain ⟨t99, e_t99, h⟩ := q_bind h
    refine aw_cV (v := (some (.int t99))) (As := [.int x2]) (rest := [.int x6]) (st' := [.int t99, .int x6]) d_Sharing_timesMet_99 kV_Sharing_172 (q_ob_spec e_o99).1 (q_ob_spec e_o99).2 ⟨Nat.le_of_ble_eq_true rfl, Nat.le_of_ble_eq_true rfl, Nat.le_of_ble_eq_true rfl, Nat.le_of_ble_eq_true rfl⟩ rfl rfl (Nat.le_of_ble_eq_true rfl) rfl (mt_Work_touchesDay e_t99) ?_
    refine aw_if_eq (tgt := 109) d_Sharing_timesMet_102 (by decide) (fun hc => ?_) (fun hc => ?_)
    · rw [if_pos hc] at h
      exact aw_pick [1, 2, 3, 4, 5, 0, 7] rfl (ih_4 _ _ _ _ _ _ _ _ _ _ _ _ h)
    · rw [if_neg hc] at h
      refine aw_iconst (v := 1) d_Sharing_timesMet_105 (by decide) ?_
      refine aw_goto (tgt := 110) d_Sharing_timesMet_106 (by decide) ?_
      exact aw_pick [1, 2, 3, 4, 5, 0, 7] rfl (ih_5 _ _ _ _ _ _ _ _ _ _ _ _ h)
set_option maxHeartbeats 4000000 in
theorem s_Sharing_timesMet_4 {rc : Nat → Nat → Int32 → Int32 → Int32 → Int32 → Int32 → Int32 → Int32 → Nat → Int32 → Int32 → am_M → Option (Int32)} {res : Int32} (ih_0 : ∀ (r0 : Nat) (x1 : Int32) (x2 : Int32) (x3 : Int32) (x4 : Int32) (x5 : Int32) (x6 : Int32) (x7 : Int32) (r8 : Nat) (s0 : Int32) (s1 : Int32) (M : am_M), rc 0 r0 x1 x2 x3 x4 x5 x6 x7 r8 s0 s1 M = some res → AW u_Sharing_timesMet R_Sharing_timesMet 0 0 12 [(0, .ref r0), (1, .int x1), (2, .int x2), (3, .int x3), (4, .int x4), (5, .int x5), (6, .int x6), (7, .int x7)] [] M (fun r M2 => r = .inl (some (.int res)) ∧ M2 = M)) (ih_1 : ∀ (r0 : Nat) (x1 : Int32) (x2 : Int32) (x3 : Int32) (x4 : Int32) (x5 : Int32) (x6 : Int32) (x7 : Int32) (r8 : Nat) (s0 : Int32) (s1 : Int32) (M : am_M), rc 1 r0 x1 x2 x3 x4 x5 x6 x7 r8 s0 s1 M = some res → AW u_Sharing_timesMet R_Sharing_timesMet 0 0 61 [(0, .ref r0), (1, .int x1), (2, .int x2), (3, .int x3), (5, .int x5), (6, .int x6), (7, .int x7), (8, .ref r8)] [.int s0] M (fun r M2 => r = .inl (some (.int res)) ∧ M2 = M)) (ih_2 : ∀ (r0 : Nat) (x1 : Int32) (x2 : Int32) (x3 : Int32) (x4 : Int32) (x5 : Int32) (x6 : Int32) (x7 : Int32) (r8 : Nat) (s0 : Int32) (s1 : Int32) (M : am_M), rc 2 r0 x1 x2 x3 x4 x5 x6 x7 r8 s0 s1 M = some res → AW u_Sharing_timesMet R_Sharing_timesMet 0 0 62 [(0, .ref r0), (1, .int x1), (2, .int x2), (3, .int x3), (5, .int x5), (6, .int x6), (7, .int x7), (8, .ref r8)] [.int s0, .int s1] M (fun r M2 => r = .inl (some (.int res)) ∧ M2 = M)) (ih_3 : ∀ (r0 : Nat) (x1 : Int32) (x2 : Int32) (x3 : Int32) (x4 : Int32) (x5 : Int32) (x6 : Int32) (x7 : Int32) (r8 : Nat) (s0 : Int32) (s1 : Int32) (M : am_M), rc 3 r0 x1 x2 x3 x4 x5 x6 x7 r8 s0 s1 M = some res → AW u_Sharing_timesMet R_Sharing_timesMet 0 0 86 [(0, .ref r0), (1, .int x1), (2, .int x2), (3, .int x3), (4, .int x4), (6, .int x6), (7, .int x7), (8, .ref r8)] [.int s0, .int s1] M (fun r M2 => r = .inl (some (.int res)) ∧ M2 = M)) (ih_4 : ∀ (r0 : Nat) (x1 : Int32) (x2 : Int32) (x3 : Int32) (x4 : Int32) (x5 : Int32) (x6 : Int32) (x7 : Int32) (r8 : Nat) (s0 : Int32) (s1 : Int32) (M : am_M), rc 4 r0 x1 x2 x3 x4 x5 x6 x7 r8 s0 s1 M = some res → AW u_Sharing_timesMet R_Sharing_timesMet 0 0 109 [(0, .ref r0), (1, .int x1), (2, .int x2), (3, .int x3), (4, .int x4), (5, .int x5), (7, .int x7)] [.int s0] M (fun r M2 => r = .inl (some (.int res)) ∧ M2 = M)) (ih_5 : ∀ (r0 : Nat) (x1 : Int32) (x2 : Int32) (x3 : Int32) (x4 : Int32) (x5 : Int32) (x6 : Int32) (x7 : Int32) (r8 : Nat) (s0 : Int32) (s1 : Int32) (M : am_M), rc 5 r0 x1 x2 x3 x4 x5 x6 x7 r8 s0 s1 M = some res → AW u_Sharing_timesMet R_Sharing_timesMet 0 0 110 [(0, .ref r0), (1, .int x1), (2, .int x2), (3, .int x3), (4, .int x4), (5, .int x5), (7, .int x7)] [.int s0, .int s1] M (fun r M2 => r = .inl (some (.int res)) ∧ M2 = M)) (ih_6 : ∀ (r0 : Nat) (x1 : Int32) (x2 : Int32) (x3 : Int32) (x4 : Int32) (x5 : Int32) (x6 : Int32) (x7 : Int32) (r8 : Nat) (s0 : Int32) (s1 : Int32) (M : am_M), rc 6 r0 x1 x2 x3 x4 x5 x6 x7 r8 s0 s1 M = some res → AW u_Sharing_timesMet R_Sharing_timesMet 0 0 113 [(0, .ref r0), (1, .int x1), (2, .int x2), (3, .int x3), (4, .int x4), (5, .int x5), (6, .int x6), (7, .int x7)] [] M (fun r M2 => r = .inl (some (.int res)) ∧ M2 = M)) : ∀ (r0 : Nat) (x1 : Int32) (x2 : Int32) (x3 : Int32) (x4 : Int32) (x5 : Int32) (x6 : Int32) (x7 : Int32) (r8 : Nat) (s0 : Int32) (s1 : Int32) (M : am_M), a_Sharing_timesMet_4 rc r0 x1 x2 x3 x4 x5 x6 x7 r8 s0 s1 M = some res → AW u_Sharing_timesMet R_Sharing_timesMet 0 0 109 [(0, .ref r0), (1, .int x1), (2, .int x2), (3, .int x3), (4, .int x4), (5, .int x5), (7, .int x7)] [.int s0] M (fun r M2 => r = .inl (some (.int res)) ∧ M2 = M) := by
  intro r0 x1 x2 x3 x4 x5 x6 x7 r8 s0 s1 M h
  unfold a_Sharing_timesMet_4 at h
  refine aw_iconst (v := 0) d_Sharing_timesMet_109 (by decide) ?_
  exact aw_pick [0, 1, 2, 3, 4, 5, 6] rfl (ih_5 _ _ _ _ _ _ _ _ _ _ _ _ h)
set_option maxHeartbeats 4000000 in
theorem s_Sharing_timesMet_5 {rc : Nat → Nat → Int32 → Int32 → Int32 → Int32 → Int32 → Int32 → Int32 → Nat → Int32 → Int32 → am_M → Option (Int32)} {res : Int32} (ih_0 : ∀ (r0 : Nat) (x1 : Int32) (x2 : Int32) (x3 : Int32) (x4 : Int32) (x5 : Int32) (x6 : Int32) (x7 : Int32) (r8 : Nat) (s0 : Int32) (s1 : Int32) (M : am_M), rc 0 r0 x1 x2 x3 x4 x5 x6 x7 r8 s0 s1 M = some res → AW u_Sharing_timesMet R_Sharing_timesMet 0 0 12 [(0, .ref r0), (1, .int x1), (2, .int x2), (3, .int x3), (4, .int x4), (5, .int x5), (6, .int x6), (7, .int x7)] [] M (fun r M2 => r = .inl (some (.int res)) ∧ M2 = M)) (ih_1 : ∀ (r0 : Nat) (x1 : Int32) (x2 : Int32) (x3 : Int32) (x4 : Int32) (x5 : Int32) (x6 : Int32) (x7 : Int32) (r8 : Nat) (s0 : Int32) (s1 : Int32) (M : am_M), rc 1 r0 x1 x2 x3 x4 x5 x6 x7 r8 s0 s1 M = some res → AW u_Sharing_timesMet R_Sharing_timesMet 0 0 61 [(0, .ref r0), (1, .int x1), (2, .int x2), (3, .int x3), (5, .int x5), (6, .int x6), (7, .int x7), (8, .ref r8)] [.int s0] M (fun r M2 => r = .inl (some (.int res)) ∧ M2 = M)) (ih_2 : ∀ (r0 : Nat) (x1 : Int32) (x2 : Int32) (x3 : Int32) (x4 : Int32) (x5 : Int32) (x6 : Int32) (x7 : Int32) (r8 : Nat) (s0 : Int32) (s1 : Int32) (M : am_M), rc 2 r0 x1 x2 x3 x4 x5 x6 x7 r8 s0 s1 M = some res → AW u_Sharing_timesMet R_Sharing_timesMet 0 0 62 [(0, .ref r0), (1, .int x1), (2, .int x2), (3, .int x3), (5, .int x5), (6, .int x6), (7, .int x7), (8, .ref r8)] [.int s0, .int s1] M (fun r M2 => r = .inl (some (.int res)) ∧ M2 = M)) (ih_3 : ∀ (r0 : Nat) (x1 : Int32) (x2 : Int32) (x3 : Int32) (x4 : Int32) (x5 : Int32) (x6 : Int32) (x7 : Int32) (r8 : Nat) (s0 : Int32) (s1 : Int32) (M : am_M), rc 3 r0 x1 x2 x3 x4 x5 x6 x7 r8 s0 s1 M = some res → AW u_Sharing_timesMet R_Sharing_timesMet 0 0 86 [(0, .ref r0), (1, .int x1), (2, .int x2), (3, .int x3), (4, .int x4), (6, .int x6), (7, .int x7), (8, .ref r8)] [.int s0, .int s1] M (fun r M2 => r = .inl (some (.int res)) ∧ M2 = M)) (ih_4 : ∀ (r0 : Nat) (x1 : Int32) (x2 : Int32) (x3 : Int32) (x4 : Int32) (x5 : Int32) (x6 : Int32) (x7 : Int32) (r8 : Nat) (s0 : Int32) (s1 : Int32) (M : am_M), rc 4 r0 x1 x2 x3 x4 x5 x6 x7 r8 s0 s1 M = some res → AW u_Sharing_timesMet R_Sharing_timesMet 0 0 109 [(0, .ref r0), (1, .int x1), (2, .int x2), (3, .int x3), (4, .int x4), (5, .int x5), (7, .int x7)] [.int s0] M (fun r M2 => r = .inl (some (.int res)) ∧ M2 = M)) (ih_5 : ∀ (r0 : Nat) (x1 : Int32) (x2 : Int32) (x3 : Int32) (x4 : Int32) (x5 : Int32) (x6 : Int32) (x7 : Int32) (r8 : Nat) (s0 : Int32) (s1 : Int32) (M : am_M), rc 5 r0 x1 x2 x3 x4 x5 x6 x7 r8 s0 s1 M = some res → AW u_Sharing_timesMet R_Sharing_timesMet 0 0 110 [(0, .ref r0), (1, .int x1), (2, .int x2), (3, .int x3), (4, .int x4), (5, .int x5), (7, .int x7)] [.int s0, .int s1] M (fun r M2 => r = .inl (some (.int res)) ∧ M2 = M)) (ih_6 : ∀ (r0 : Nat) (x1 : Int32) (x2 : Int32) (x3 : Int32) (x4 : Int32) (x5 : Int32) (x6 : Int32) (x7 : Int32) (r8 : Nat) (s0 : Int32) (s1 : Int32) (M : am_M), rc 6 r0 x1 x2 x3 x4 x5 x6 x7 r8 s0 s1 M = some res → AW u_Sharing_timesMet R_Sharing_timesMet 0 0 113 [(0, .ref r0), (1, .int x1), (2, .int x2), (3, .int x3), (4, .int x4), (5, .int x5), (6, .int x6), (7, .int x7)] [] M (fun r M2 => r = .inl (some (.int res)) ∧ M2 = M)) : ∀ (r0 : Nat) (x1 : Int32) (x2 : Int32) (x3 : Int32) (x4 : Int32) (x5 : Int32) (x6 : Int32) (x7 : Int32) (r8 : Nat) (s0 : Int32) (s1 : Int32) (M : am_M), a_Sharing_timesMet_5 rc r0 x1 x2 x3 x4 x5 x6 x7 r8 s0 s1 M = some res → AW u_Sharing_timesMet R_Sharing_timesMet 0 0 110 [(0, .ref r0), (1, .int x1), (2, .int x2), (3, .int x3), (4, .int x4), (5, .int x5), (7, .int x7)] [.int s0, .int s1] M (fun r M2 => r = .inl (some (.int res)) ∧ M2 = M) := by
  intro r0 x1 x2 x3 x4 x5 x6 x7 r8 s0 s1 M h
  unfold a_Sharing_timesMet_5 at h
  refine aw_iadd d_Sharing_timesMet_110 ?_
  refine aw_istore (ls' := [(6, .int _), (0, .ref _), (1, .int _), (2, .int _), (3, .int _), (4, .int _), (5, .int _), (7, .int _)]) d_Sharing_timesMet_111 (Nat.le_of_ble_eq_true rfl) rfl ?_
  exact aw_pick [1, 2, 3, 4, 5, 6, 0, 7] rfl (ih_6 _ _ _ _ _ _ _ _ _ _ _ _ h)
set_option maxHeartbeats 4000000 in
theorem s_Sharing_timesMet_6 {rc : Nat → Nat → Int32 → Int32 → Int32 → Int32 → Int32 → Int32 → Int32 → Nat → Int32 → Int32 → am_M → Option (Int32)} {res : Int32} (ih_0 : ∀ (r0 : Nat) (x1 : Int32) (x2 : Int32) (x3 : Int32) (x4 : Int32) (x5 : Int32) (x6 : Int32) (x7 : Int32) (r8 : Nat) (s0 : Int32) (s1 : Int32) (M : am_M), rc 0 r0 x1 x2 x3 x4 x5 x6 x7 r8 s0 s1 M = some res → AW u_Sharing_timesMet R_Sharing_timesMet 0 0 12 [(0, .ref r0), (1, .int x1), (2, .int x2), (3, .int x3), (4, .int x4), (5, .int x5), (6, .int x6), (7, .int x7)] [] M (fun r M2 => r = .inl (some (.int res)) ∧ M2 = M)) (ih_1 : ∀ (r0 : Nat) (x1 : Int32) (x2 : Int32) (x3 : Int32) (x4 : Int32) (x5 : Int32) (x6 : Int32) (x7 : Int32) (r8 : Nat) (s0 : Int32) (s1 : Int32) (M : am_M), rc 1 r0 x1 x2 x3 x4 x5 x6 x7 r8 s0 s1 M = some res → AW u_Sharing_timesMet R_Sharing_timesMet 0 0 61 [(0, .ref r0), (1, .int x1), (2, .int x2), (3, .int x3), (5, .int x5), (6, .int x6), (7, .int x7), (8, .ref r8)] [.int s0] M (fun r M2 => r = .inl (some (.int res)) ∧ M2 = M)) (ih_2 : ∀ (r0 : Nat) (x1 : Int32) (x2 : Int32) (x3 : Int32) (x4 : Int32) (x5 : Int32) (x6 : Int32) (x7 : Int32) (r8 : Nat) (s0 : Int32) (s1 : Int32) (M : am_M), rc 2 r0 x1 x2 x3 x4 x5 x6 x7 r8 s0 s1 M = some res → AW u_Sharing_timesMet R_Sharing_timesMet 0 0 62 [(0, .ref r0), (1, .int x1), (2, .int x2), (3, .int x3), (5, .int x5), (6, .int x6), (7, .int x7), (8, .ref r8)] [.int s0, .int s1] M (fun r M2 => r = .inl (some (.int res)) ∧ M2 = M)) (ih_3 : ∀ (r0 : Nat) (x1 : Int32) (x2 : Int32) (x3 : Int32) (x4 : Int32) (x5 : Int32) (x6 : Int32) (x7 : Int32) (r8 : Nat) (s0 : Int32) (s1 : Int32) (M : am_M), rc 3 r0 x1 x2 x3 x4 x5 x6 x7 r8 s0 s1 M = some res → AW u_Sharing_timesMet R_Sharing_timesMet 0 0 86 [(0, .ref r0), (1, .int x1), (2, .int x2), (3, .int x3), (4, .int x4), (6, .int x6), (7, .int x7), (8, .ref r8)] [.int s0, .int s1] M (fun r M2 => r = .inl (some (.int res)) ∧ M2 = M)) (ih_4 : ∀ (r0 : Nat) (x1 : Int32) (x2 : Int32) (x3 : Int32) (x4 : Int32) (x5 : Int32) (x6 : Int32) (x7 : Int32) (r8 : Nat) (s0 : Int32) (s1 : Int32) (M : am_M), rc 4 r0 x1 x2 x3 x4 x5 x6 x7 r8 s0 s1 M = some res → AW u_Sharing_timesMet R_Sharing_timesMet 0 0 109 [(0, .ref r0), (1, .int x1), (2, .int x2), (3, .int x3), (4, .int x4), (5, .int x5), (7, .int x7)] [.int s0] M (fun r M2 => r = .inl (some (.int res)) ∧ M2 = M)) (ih_5 : ∀ (r0 : Nat) (x1 : Int32) (x2 : Int32) (x3 : Int32) (x4 : Int32) (x5 : Int32) (x6 : Int32) (x7 : Int32) (r8 : Nat) (s0 : Int32) (s1 : Int32) (M : am_M), rc 5 r0 x1 x2 x3 x4 x5 x6 x7 r8 s0 s1 M = some res → AW u_Sharing_timesMet R_Sharing_timesMet 0 0 110 [(0, .ref r0), (1, .int x1), (2, .int x2), (3, .int x3), (4, .int x4), (5, .int x5), (7, .int x7)] [.int s0, .int s1] M (fun r M2 => r = .inl (some (.int res)) ∧ M2 = M)) (ih_6 : ∀ (r0 : Nat) (x1 : Int32) (x2 : Int32) (x3 : Int32) (x4 : Int32) (x5 : Int32) (x6 : Int32) (x7 : Int32) (r8 : Nat) (s0 : Int32) (s1 : Int32) (M : am_M), rc 6 r0 x1 x2 x3 x4 x5 x6 x7 r8 s0 s1 M = some res → AW u_Sharing_timesMet R_Sharing_timesMet 0 0 113 [(0, .ref r0), (1, .int x1), (2, .int x2), (3, .int x3), (4, .int x4), (5, .int x5), (6, .int x6), (7, .int x7)] [] M (fun r M2 => r = .inl (some (.int res)) ∧ M2 = M)) : ∀ (r0 : Nat) (x1 : Int32) (x2 : Int32) (x3 : Int32) (x4 : Int32) (x5 : Int32) (x6 : Int32) (x7 : Int32) (r8 : Nat) (s0 : Int32) (s1 : Int32) (M : am_M), a_Sharing_timesMet_6 rc r0 x1 x2 x3 x4 x5 x6 x7 r8 s0 s1 M = some res → AW u_Sharing_timesMet R_Sharing_timesMet 0 0 113 [(0, .ref r0), (1, .int x1), (2, .int x2), (3, .int x3), (4, .int x4), (5, .int x5), (6, .int x6), (7, .int x7)] [] M (fun r M2 => r = .inl (some (.int res)) ∧ M2 = M) := by
  intro r0 x1 x2 x3 x4 x5 x6 x7 r8 s0 s1 M h
  unfold a_Sharing_timesMet_6 at h
  refine aw_iinc (v := (x7 + (1 : Int32))) (ls' := [(7, .int _), (0, .ref _), (1, .int _), (2, .int _), (3, .int _), (4, .int _), (5, .int _), (6, .int _)]) d_Sharing_timesMet_113 rfl rfl (Nat.le_of_ble_eq_true rfl) rfl ?_
  refine aw_goto (tgt := 12) d_Sharing_timesMet_116 (by decide) ?_
  exact aw_pick [1, 2, 3, 4, 5, 6, 7, 0] rfl (ih_0 _ _ _ _ _ _ _ _ _ _ _ _ h)
theorem l_Sharing_timesMet {res : Int32} : ∀ F : Nat, (∀ (r0 : Nat) (x1 : Int32) (x2 : Int32) (x3 : Int32) (x4 : Int32) (x5 : Int32) (x6 : Int32) (x7 : Int32) (r8 : Nat) (s0 : Int32) (s1 : Int32) (M : am_M), g_Sharing_timesMet F 0 r0 x1 x2 x3 x4 x5 x6 x7 r8 s0 s1 M = some res → AW u_Sharing_timesMet R_Sharing_timesMet 0 0 12 [(0, .ref r0), (1, .int x1), (2, .int x2), (3, .int x3), (4, .int x4), (5, .int x5), (6, .int x6), (7, .int x7)] [] M (fun r M2 => r = .inl (some (.int res)) ∧ M2 = M)) ∧ (∀ (r0 : Nat) (x1 : Int32) (x2 : Int32) (x3 : Int32) (x4 : Int32) (x5 : Int32) (x6 : Int32) (x7 : Int32) (r8 : Nat) (s0 : Int32) (s1 : Int32) (M : am_M), g_Sharing_timesMet F 1 r0 x1 x2 x3 x4 x5 x6 x7 r8 s0 s1 M = some res → AW u_Sharing_timesMet R_Sharing_timesMet 0 0 61 [(0, .ref r0), (1, .int x1), (2, .int x2), (3, .int x3), (5, .int x5), (6, .int x6), (7, .int x7), (8, .ref r8)] [.int s0] M (fun r M2 => r = .inl (some (.int res)) ∧ M2 = M)) ∧ (∀ (r0 : Nat) (x1 : Int32) (x2 : Int32) (x3 : Int32) (x4 : Int32) (x5 : Int32) (x6 : Int32) (x7 : Int32) (r8 : Nat) (s0 : Int32) (s1 : Int32) (M : am_M), g_Sharing_timesMet F 2 r0 x1 x2 x3 x4 x5 x6 x7 r8 s0 s1 M = some res → AW u_Sharing_timesMet R_Sharing_timesMet 0 0 62 [(0, .ref r0), (1, .int x1), (2, .int x2), (3, .int x3), (5, .int x5), (6, .int x6), (7, .int x7), (8, .ref r8)] [.int s0, .int s1] M (fun r M2 => r = .inl (some (.int res)) ∧ M2 = M)) ∧ (∀ (r0 : Nat) (x1 : Int32) (x2 : Int32) (x3 : Int32) (x4 : Int32) (x5 : Int32) (x6 : Int32) (x7 : Int32) (r8 : Nat) (s0 : Int32) (s1 : Int32) (M : am_M), g_Sharing_timesMet F 3 r0 x1 x2 x3 x4 x5 x6 x7 r8 s0 s1 M = some res → AW u_Sharing_timesMet R_Sharing_timesMet 0 0 86 [(0, .ref r0), (1, .int x1), (2, .int x2), (3, .int x3), (4, .int x4), (6, .int x6), (7, .int x7), (8, .ref r8)] [.int s0, .int s1] M (fun r M2 => r = .inl (some (.int res)) ∧ M2 = M)) ∧ (∀ (r0 : Nat) (x1 : Int32) (x2 : Int32) (x3 : Int32) (x4 : Int32) (x5 : Int32) (x6 : Int32) (x7 : Int32) (r8 : Nat) (s0 : Int32) (s1 : Int32) (M : am_M), g_Sharing_timesMet F 4 r0 x1 x2 x3 x4 x5 x6 x7 r8 s0 s1 M = some res → AW u_Sharing_timesMet R_Sharing_timesMet 0 0 109 [(0, .ref r0), (1, .int x1), (2, .int x2), (3, .int x3), (4, .int x4), (5, .int x5), (7, .int x7)] [.int s0] M (fun r M2 => r = .inl (some (.int res)) ∧ M2 = M)) ∧ (∀ (r0 : Nat) (x1 : Int32) (x2 : Int32) (x3 : Int32) (x4 : Int32) (x5 : Int32) (x6 : Int32) (x7 : Int32) (r8 : Nat) (s0 : Int32) (s1 : Int32) (M : am_M), g_Sharing_timesMet F 5 r0 x1 x2 x3 x4 x5 x6 x7 r8 s0 s1 M = some res → AW u_Sharing_timesMet R_Sharing_timesMet 0 0 110 [(0, .ref r0), (1, .int x1), (2, .int x2), (3, .int x3), (4, .int x4), (5, .int x5), (7, .int x7)] [.int s0, .int s1] M (fun r M2 => r = .inl (some (.int res)) ∧ M2 = M)) ∧ (∀ (r0 : Nat) (x1 : Int32) (x2 : Int32) (x3 : Int32) (x4 : Int32) (x5 : Int32) (x6 : Int32) (x7 : Int32) (r8 : Nat) (s0 : Int32) (s1 : Int32) (M : am_M), g_Sharing_timesMet F 6 r0 x1 x2 x3 x4 x5 x6 x7 r8 s0 s1 M = some res → AW u_Sharing_timesMet R_Sharing_timesMet 0 0 113 [(0, .ref r0), (1, .int x1), (2, .int x2), (3, .int x3), (4, .int x4), (5, .int x5), (6, .int x6), (7, .int x7)] [] M (fun r M2 => r = .inl (some (.int res)) ∧ M2 = M)) := by
  intro F
  induction F with
  | zero => exact ⟨fun _ _ _ _ _ _ _ _ _ _ _ _  h => (by cases h), fun _ _ _ _ _ _ _ _ _ _ _ _  h => (by cases h), fun _ _ _ _ _ _ _ _ _ _ _ _  h => (by cases h), fun _ _ _ _ _ _ _ _ _ _ _ _  h => (by cases h), fun _ _ _ _ _ _ _ _ _ _ _ _  h => (by cases h), fun _ _ _ _ _ _ _ _ _ _ _ _  h => (by cases h), fun _ _ _ _ _ _ _ _ _ _ _ _  h => (by cases h)⟩
  | succ F ih =>
    obtain ⟨ih0, ih1, ih2, ih3, ih4, ih5, ih6⟩ := ih
    exact ⟨s_Sharing_timesMet_0 ih0 ih1 ih2 ih3 ih4 ih5 ih6, s_Sharing_timesMet_1 ih0 ih1 ih2 ih3 ih4 ih5 ih6, s_Sharing_timesMet_2 ih0 ih1 ih2 ih3 ih4 ih5 ih6, s_Sharing_timesMet_3 ih0 ih1 ih2 ih3 ih4 ih5 ih6, s_Sharing_timesMet_4 ih0 ih1 ih2 ih3 ih4 ih5 ih6, s_Sharing_timesMet_5 ih0 ih1 ih2 ih3 ih4 ih5 ih6, s_Sharing_timesMet_6 ih0 ih1 ih2 ih3 ih4 ih5 ih6⟩
set_option maxHeartbeats 4000000 in
theorem mt_Sharing_timesMet {M : am_M} {a0 : Nat} {a1 : Int32} {a2 : Int32} {a3 : Int32} {res : Int32} (h : f_Sharing_timesMet M a0 a1 a2 a3 = some res) : AMet y_Sharing_timesMet u_Sharing_timesMet R_Sharing_timesMet [.ref a0, .int a1, .int a2, .int a3] M (fun r M2 => r = .inl (some (.int res)) ∧ M2 = M) := by
  refine am_met (by decide +kernel) w_Sharing_timesMet rfl rfl (Nat.le_of_ble_eq_true rfl) ?_
  show AW u_Sharing_timesMet R_Sharing_timesMet 0 0 0 [(0, .ref a0), (1, .int a1), (2, .int a2), (3, .int a3)] [] M (fun r M2 => r = .inl (some (.int res)) ∧ M2 = M)
  have ih_0 := (l_Sharing_timesMet (res := res) 1000000000).1
  have ih_1 := (l_Sharing_timesMet (res := res) 1000000000).2.1
  have ih_2 := (l_Sharing_timesMet (res := res) 1000000000).2.2.1
  have ih_3 := (l_Sharing_timesMet (res := res) 1000000000).2.2.2.1
  have ih_4 := (l_Sharing_timesMet (res := res) 1000000000).2.2.2.2.1
  have ih_5 := (l_Sharing_timesMet (res := res) 1000000000).2.2.2.2.2.1
  have ih_6 := (l_Sharing_timesMet (res := res) 1000000000).2.2.2.2.2.2
  unfold f_Sharing_timesMet at h
  unfold e_Sharing_timesMet at h
  generalize g_Sharing_timesMet 1000000000 = rc at h ih_0 ih_1 ih_2 ih_3 ih_4 ih_5 ih_6
  refine aw_iconst (v := 0) d_Sharing_timesMet_0 (by decide) ?_
  refine aw_istore (ls' := [(4, .int _), (0, .ref _), (1, .int _), (2, .int _), (3, .int _)]) d_Sharing_timesMet_1 (Nat.le_of_ble_eq_true rfl) rfl ?_
  refine aw_iconst (v := 0) d_Sharing_timesMet_3 (by decide) ?_
  refine aw_istore (ls' := [(5, .int _), (4, .int _), (0, .ref _), (1, .int _), (2, .int _), (3, .int _)]) d_Sharing_timesMet_4 (Nat.le_of_ble_eq_true rfl) rfl ?_
  refine aw_iconst (v := 0) d_Sharing_timesMet_6 (by decide) ?_
  refine aw_istore (ls' := [(6, .int _), (5, .int _), (4, .int _), (0, .ref _), (1, .int _), (2, .int _), (3, .int _)]) d_Sharing_timesMet_7 (Nat.le_of_ble_eq_true rfl) rfl ?_
  refine aw_iconst (v := 0) d_Sharing_timesMet_9 (by decide) ?_
  refine aw_istore (ls' := [(7, .int _), (6, .int _), (5, .int _), (4, .int _), (0, .ref _), (1, .int _), (2, .int _), (3, .int _)]) d_Sharing_timesMet_10 (Nat.le_of_ble_eq_true rfl) rfl ?_
  exact aw_pick [4, 5, 6, 7, 3, 2, 1, 0] rfl (ih_0 _ _ _ _ _ _ _ _ _ _ _ _ h)
def y_Trip_longestDuty : MethodName := ⟨"CrewOffice$Trip", "longestDuty", "()I"⟩
def u_Trip_longestDuty : am_U := ("CrewOffice$Trip", "longestDuty", prog_9_method_8_code, 3, (some .int), [])
def R_Trip_longestDuty : Room := { frames := 1, cells := 0, slots := 0, locals := 21 }
theorem d_Trip_longestDuty_0 : decode u_Trip_longestDuty.2.2.1 0 = .ok (.aload_n 0, 1) := by decide +kernel
theorem d_Trip_longestDuty_1 : decode u_Trip_longestDuty.2.2.1 1 = .ok (.iconst 0, 1) := by decide +kernel
theorem d_Trip_longestDuty_2 : decode u_Trip_longestDuty.2.2.1 2 = .ok (.invokevirtual 91, 3) := by decide +kernel
theorem d_Trip_longestDuty_5 : decode u_Trip_longestDuty.2.2.1 5 = .ok (.istore_n 1, 1) := by decide +kernel
theorem d_Trip_longestDuty_6 : decode u_Trip_longestDuty.2.2.1 6 = .ok (.iconst 1, 1) := by decide +kernel
theorem d_Trip_longestDuty_7 : decode u_Trip_longestDuty.2.2.1 7 = .ok (.istore_n 2, 1) := by decide +kernel
theorem d_Trip_longestDuty_8 : decode u_Trip_longestDuty.2.2.1 8 = .ok (.iload_n 2, 1) := by decide +kernel
theorem d_Trip_longestDuty_9 : decode u_Trip_longestDuty.2.2.1 9 = .ok (.aload_n 0, 1) := by decide +kernel
theorem d_Trip_longestDuty_10 : decode u_Trip_longestDuty.2.2.1 10 = .ok (.getfield 51, 3) := by decide +kernel
theorem d_Trip_longestDuty_13 : decode u_Trip_longestDuty.2.2.1 13 = .ok (.if_icmp .ge 19, 3) := by decide +kernel
theorem d_Trip_longestDuty_16 : decode u_Trip_longestDuty.2.2.1 16 = .ok (.iload_n 1, 1) := by decide +kernel
theorem d_Trip_longestDuty_17 : decode u_Trip_longestDuty.2.2.1 17 = .ok (.aload_n 0, 1) := by decide +kernel
theorem d_Trip_longestDuty_18 : decode u_Trip_longestDuty.2.2.1 18 = .ok (.iload_n 2, 1) := by decide +kernel
theorem d_Trip_longestDuty_19 : decode u_Trip_longestDuty.2.2.1 19 = .ok (.invokevirtual 91, 3) := by decide +kernel
theorem d_Trip_longestDuty_22 : decode u_Trip_longestDuty.2.2.1 22 = .ok (.invokestatic 95, 3) := by decide +kernel
theorem d_Trip_longestDuty_25 : decode u_Trip_longestDuty.2.2.1 25 = .ok (.istore_n 1, 1) := by decide +kernel
theorem d_Trip_longestDuty_26 : decode u_Trip_longestDuty.2.2.1 26 = .ok (.iinc 2 1, 3) := by decide +kernel
theorem d_Trip_longestDuty_29 : decode u_Trip_longestDuty.2.2.1 29 = .ok (.goto (-21), 3) := by decide +kernel
theorem d_Trip_longestDuty_32 : decode u_Trip_longestDuty.2.2.1 32 = .ok (.iload_n 1, 1) := by decide +kernel
theorem d_Trip_longestDuty_33 : decode u_Trip_longestDuty.2.2.1 33 = .ok (.ireturn, 1) := by decide +kernel
theorem w_Trip_longestDuty : am_code y_Trip_longestDuty u_Trip_longestDuty ∈ am_ws := am_mem (List.mem_of_getElem? (i := 849) (by decide +kernel)) rfl
def a_Trip_longestDuty_0 (rc : Nat → Nat → Int32 → Int32 → am_M → Option (Int32)) (r0 : Nat) (x1 : Int32) (x2 : Int32) (M : am_M) : Option (Int32) := (q_gti M r0 5 2).bind (fun t10 => if t10 ≤ x2 then (some x1) else ((q_ob M r0 5).bind (fun o19 => (f_Trip_lengthOf M r0 x2).bind (fun t19 => (f_Math_max M x1 t19).bind (fun t22 => rc 0 r0 t22 (x2 + (1 : Int32)) M)))))
def g_Trip_longestDuty : Nat → Nat → Nat → Int32 → Int32 → am_M → Option (Int32)
  | 0, _, _, _, _, _ => none
  | F + 1, 0, r0, x1, x2, M => a_Trip_longestDuty_0 (g_Trip_longestDuty F) r0 x1 x2 M
  | _ + 1, _ + 1, _, _, _, _ => none
def e_Trip_longestDuty (rc : Nat → Nat → Int32 → Int32 → am_M → Option (Int32)) (M : am_M) (a0 : Nat) : Option (Int32) := (q_ob M a0 5).bind (fun o2 => (f_Trip_lengthOf M a0 (0 : Int32)).bind (fun t2 => rc 0 a0 t2 (1 : Int32) M))
def f_Trip_longestDuty (M : am_M) (a0 : Nat) : Option (Int32) := e_Trip_longestDuty (g_Trip_longestDuty 1000000000) M a0
theorem kV_Trip_91 : am_kV "CrewOffice$Trip" 91 5 y_Trip_lengthOf u_Trip_lengthOf 1 := ⟨List.mem_of_getElem? (i := 524) (by decide +kernel), ⟨List.mem_of_getElem? (i := 526) (by decide +kernel), List.mem_of_getElem? (i := 8) (by decide +kernel)⟩, List.mem_of_getElem? (i := 60) (by decide +kernel), w_Trip_lengthOf, ⟨⟨by decide +kernel, by decide +kernel⟩, by decide +kernel⟩⟩
theorem kS_Trip_95 : am_kS "CrewOffice$Trip" 95 y_Math_max u_Math_max 2 := ⟨List.mem_of_getElem? (i := 550) (by decide +kernel), List.mem_of_getElem? (i := 551) (by decide +kernel), List.mem_of_getElem? (i := 72) (by decide +kernel), w_Math_max, ⟨⟨by decide +kernel, by decide +kernel⟩, by decide +kernel⟩⟩
set_option maxHeartbeats 4000000 in
theorem s_Trip_longestDuty_0 {rc : Nat → Nat → Int32 → Int32 → am_M → Option (Int32)} {res : Int32} (ih_0 : ∀ (r0 : Nat) (x1 : Int32) (x2 : Int32) (M : am_M), rc 0 r0 x1 x2 M = some res → AW u_Trip_longestDuty R_Trip_longestDuty 0 0 8 [(0, .ref r0), (1, .int x1), (2, .int x2)] [] M (fun r M2 => r = .inl (some (.int res)) ∧ M2 = M)) : ∀ (r0 : Nat) (x1 : Int32) (x2 : Int32) (M : am_M), a_Trip_longestDuty_0 rc r0 x1 x2 M = some res → AW u_Trip_longestDuty R_Trip_longestDuty 0 0 8 [(0, .ref r0), (1, .int x1), (2, .int x2)] [] M (fun r M2 => r = .inl (some (.int res)) ∧ M2 = M) := by
  intro r0 x1 x2 M h
  unfold a_Trip_longestDuty_0 at h
  refine aw_iload_n d_Trip_longestDuty_8 rfl rfl ?_
  refine aw_aload_n d_Trip_longestDuty_9 rfl rfl ?_
  obtain ⟨t10, e_t10, h⟩ := q_bind h
  refine aw_gti d_Trip_longestDuty_10 fl_Trip_51 (Or.inl rfl) e_t10 ?_
  refine aw_icmp_ge (tgt := 32) d_Trip_longestDuty_13 (by decide) (fun hc => ?_) (fun hc => ?_)
  · rw [if_pos hc] at h
    refine aw_iload_n d_Trip_longestDuty_32 rfl rfl ?_
    cases h
    exact aw_ireturn d_Trip_longestDuty_33 rfl (Nat.le_of_ble_eq_true rfl) (Nat.le_of_ble_eq_true rfl) ⟨rfl, rfl⟩
  · rw [if_neg hc] at h
    refine aw_iload_n d_Trip_longestDuty_16 rfl rfl ?_
    refine aw_aload_n d_Trip_longestDuty_17 rfl rfl ?_
    refine aw_iload_n d_Trip_longestDuty_18 rfl rfl ?_
    obtain ⟨o19, e_o19, h⟩ := q_bind h
    obtain ⟨t19, e_t19, h⟩ := q_bind h
    refine aw_cV (v := (some (.int t19))) (As := [.int x2]) (rest := [.int x1]) (st' := [.int t19, .int x1]) d_Trip_longestDuty_19 kV_Trip_91 (q_ob_spec e_o19).1 (q_ob_spec e_o19).2 ⟨Nat.le_of_ble_eq_true rfl, Nat.le_of_ble_eq_true rfl, Nat.le_of_ble_eq_true rfl, Nat.le_of_ble_eq_true rfl⟩ rfl rfl (Nat.le_of_ble_eq_true rfl) rfl (mt_Trip_lengthOf e_t19) ?_
    obtain ⟨t22, e_t22, h⟩ := q_bind h
    refine aw_cS (v := (some (.int t22))) (As := [.int x1, .int t19]) (rest := []) (st' := [.int t22]) d_Trip_longestDuty_22 kS_Trip_95 ⟨Nat.le_of_ble_eq_true rfl, Nat.le_of_ble_eq_true rfl, Nat.le_of_ble_eq_true rfl, Nat.le_of_ble_eq_true rfl⟩ rfl rfl (Nat.le_of_ble_eq_true rfl) rfl (mt_Math_max e_t22) ?_
    refine aw_istore_n (ls' := [(1, .int _), (0, .ref _), (2, .int _)]) d_Trip_longestDuty_25 rfl (Nat.le_of_ble_eq_true rfl) rfl ?_
    refine aw_iinc (v := (x2 + (1 : Int32))) (ls' := [(2, .int _), (1, .int _), (0, .ref _)]) d_Trip_longestDuty_26 rfl rfl (Nat.le_of_ble_eq_true rfl) rfl ?_
    refine aw_goto (tgt := 8) d_Trip_longestDuty_29 (by decide) ?_
    exact aw_pick [2, 1, 0] rfl (ih_0 _ _ _ _ h)
theorem l_Trip_longestDuty {res : Int32} : ∀ F : Nat, (∀ (r0 : Nat) (x1 : Int32) (x2 : Int32) (M : am_M), g_Trip_longestDuty F 0 r0 x1 x2 M = some res → AW u_Trip_longestDuty R_Trip_longestDuty 0 0 8 [(0, .ref r0), (1, .int x1), (2, .int x2)] [] M (fun r M2 => r = .inl (some (.int res)) ∧ M2 = M)) := by
  intro F
  induction F with
  | zero => exact fun _ _ _ _  h => (by cases h)
  | succ F ih =>
    have ih0 := ih
    exact s_Trip_longestDuty_0 ih0
set_option maxHeartbeats 4000000 in
theorem mt_Trip_longestDuty {M : am_M} {a0 : Nat} {res : Int32} (h : f_Trip_longestDuty M a0 = some res) : AMet y_Trip_longestDuty u_Trip_longestDuty R_Trip_longestDuty [.ref a0] M (fun r M2 => r = .inl (some (.int res)) ∧ M2 = M) := by
  refine am_met (by decide +kernel) w_Trip_longestDuty rfl rfl (Nat.le_of_ble_eq_true rfl) ?_
  show AW u_Trip_longestDuty R_Trip_longestDuty 0 0 0 [(0, .ref a0)] [] M (fun r M2 => r = .inl (some (.int res)) ∧ M2 = M)
  have ih_0 := (l_Trip_longestDuty (res := res) 1000000000)
  unfold f_Trip_longestDuty at h
  unfold e_Trip_longestDuty at h
  generalize g_Trip_longestDuty 1000000000 = rc at h ih_0
  refine aw_aload_n d_Trip_longestDuty_0 rfl rfl ?_
  refine aw_iconst (v := 0) d_Trip_longestDuty_1 (by decide) ?_
  obtain ⟨o2, e_o2, h⟩ := q_bind h
  obtain ⟨t2, e_t2, h⟩ := q_bind h
  refine aw_cV (v := (some (.int t2))) (As := [.int (0 : Int32)]) (rest := []) (st' := [.int t2]) d_Trip_longestDuty_2 kV_Trip_91 (q_ob_spec e_o2).1 (q_ob_spec e_o2).2 ⟨Nat.le_of_ble_eq_true rfl, Nat.le_of_ble_eq_true rfl, Nat.le_of_ble_eq_true rfl, Nat.le_of_ble_eq_true rfl⟩ rfl rfl (Nat.le_of_ble_eq_true rfl) rfl (mt_Trip_lengthOf e_t2) ?_
  refine aw_istore_n (ls' := [(1, .int _), (0, .ref _)]) d_Trip_longestDuty_5 rfl (Nat.le_of_ble_eq_true rfl) rfl ?_
  refine aw_iconst (v := 1) d_Trip_longestDuty_6 (by decide) ?_
  refine aw_istore_n (ls' := [(2, .int _), (1, .int _), (0, .ref _)]) d_Trip_longestDuty_7 rfl (Nat.le_of_ble_eq_true rfl) rfl ?_
  exact aw_pick [2, 1, 0] rfl (ih_0 _ _ _ _ h)
def y_Trip_limitOf : MethodName := ⟨"CrewOffice$Trip", "limitOf", "(I)I"⟩
def u_Trip_limitOf : am_U := ("CrewOffice$Trip", "limitOf", prog_9_method_13_code, 4, (some .int), [])
def R_Trip_limitOf : Room := { frames := 2, cells := 0, slots := 0, locals := 43 }
theorem d_Trip_limitOf_0 : decode u_Trip_limitOf.2.2.1 0 = .ok (.aload_n 0, 1) := by decide +kernel
theorem d_Trip_limitOf_1 : decode u_Trip_limitOf.2.2.1 1 = .ok (.aload_n 0, 1) := by decide +kernel
theorem d_Trip_limitOf_2 : decode u_Trip_limitOf.2.2.1 2 = .ok (.getfield 18, 3) := by decide +kernel
theorem d_Trip_limitOf_5 : decode u_Trip_limitOf.2.2.1 5 = .ok (.iload_n 1, 1) := by decide +kernel
theorem d_Trip_limitOf_6 : decode u_Trip_limitOf.2.2.1 6 = .ok (.iaload, 1) := by decide +kernel
theorem d_Trip_limitOf_7 : decode u_Trip_limitOf.2.2.1 7 = .ok (.invokevirtual 63, 3) := by decide +kernel
theorem d_Trip_limitOf_10 : decode u_Trip_limitOf.2.2.1 10 = .ok (.getfield 79, 3) := by decide +kernel
theorem d_Trip_limitOf_13 : decode u_Trip_limitOf.2.2.1 13 = .ok (.istore_n 2, 1) := by decide +kernel
theorem d_Trip_limitOf_14 : decode u_Trip_limitOf.2.2.1 14 = .ok (.aload_n 0, 1) := by decide +kernel
theorem d_Trip_limitOf_15 : decode u_Trip_limitOf.2.2.1 15 = .ok (.getfield 28, 3) := by decide +kernel
theorem d_Trip_limitOf_18 : decode u_Trip_limitOf.2.2.1 18 = .ok (.getfield 143, 3) := by decide +kernel
theorem d_Trip_limitOf_21 : decode u_Trip_limitOf.2.2.1 21 = .ok (.iload_n 2, 1) := by decide +kernel
theorem d_Trip_limitOf_22 : decode u_Trip_limitOf.2.2.1 22 = .ok (.aaload, 1) := by decide +kernel
theorem d_Trip_limitOf_23 : decode u_Trip_limitOf.2.2.1 23 = .ok (.aload_n 0, 1) := by decide +kernel
theorem d_Trip_limitOf_24 : decode u_Trip_limitOf.2.2.1 24 = .ok (.getfield 22, 3) := by decide +kernel
theorem d_Trip_limitOf_27 : decode u_Trip_limitOf.2.2.1 27 = .ok (.iload_n 1, 1) := by decide +kernel
theorem d_Trip_limitOf_28 : decode u_Trip_limitOf.2.2.1 28 = .ok (.iaload, 1) := by decide +kernel
theorem d_Trip_limitOf_29 : decode u_Trip_limitOf.2.2.1 29 = .ok (.invokevirtual 147, 3) := by decide +kernel
theorem d_Trip_limitOf_32 : decode u_Trip_limitOf.2.2.1 32 = .ok (.sipush 360, 3) := by decide +kernel
theorem d_Trip_limitOf_35 : decode u_Trip_limitOf.2.2.1 35 = .ok (.idiv, 1) := by decide +kernel
theorem d_Trip_limitOf_36 : decode u_Trip_limitOf.2.2.1 36 = .ok (.istore_n 3, 1) := by decide +kernel
theorem d_Trip_limitOf_37 : decode u_Trip_limitOf.2.2.1 37 = .ok (.aload_n 0, 1) := by decide +kernel
theorem d_Trip_limitOf_38 : decode u_Trip_limitOf.2.2.1 38 = .ok (.getfield 28, 3) := by decide +kernel
theorem d_Trip_limitOf_41 : decode u_Trip_limitOf.2.2.1 41 = .ok (.getfield 152, 3) := by decide +kernel
theorem d_Trip_limitOf_44 : decode u_Trip_limitOf.2.2.1 44 = .ok (.iload_n 3, 1) := by decide +kernel
theorem d_Trip_limitOf_45 : decode u_Trip_limitOf.2.2.1 45 = .ok (.aaload, 1) := by decide +kernel
theorem d_Trip_limitOf_46 : decode u_Trip_limitOf.2.2.1 46 = .ok (.aload_n 0, 1) := by decide +kernel
theorem d_Trip_limitOf_47 : decode u_Trip_limitOf.2.2.1 47 = .ok (.iload_n 1, 1) := by decide +kernel
theorem d_Trip_limitOf_48 : decode u_Trip_limitOf.2.2.1 48 = .ok (.invokevirtual 137, 3) := by decide +kernel
theorem d_Trip_limitOf_51 : decode u_Trip_limitOf.2.2.1 51 = .ok (.iconst 4, 1) := by decide +kernel
theorem d_Trip_limitOf_52 : decode u_Trip_limitOf.2.2.1 52 = .ok (.invokestatic 156, 3) := by decide +kernel
theorem d_Trip_limitOf_55 : decode u_Trip_limitOf.2.2.1 55 = .ok (.iconst 1, 1) := by decide +kernel
theorem d_Trip_limitOf_56 : decode u_Trip_limitOf.2.2.1 56 = .ok (.isub, 1) := by decide +kernel
theorem d_Trip_limitOf_57 : decode u_Trip_limitOf.2.2.1 57 = .ok (.iaload, 1) := by decide +kernel
theorem d_Trip_limitOf_58 : decode u_Trip_limitOf.2.2.1 58 = .ok (.ireturn, 1) := by decide +kernel
theorem w_Trip_limitOf : am_code y_Trip_limitOf u_Trip_limitOf ∈ am_ws := am_mem (List.mem_of_getElem? (i := 531) (by decide +kernel)) rfl
def e_Trip_limitOf (M : am_M) (a0 : Nat) (a1 : Int32) : Option (Int32) := (q_gtr M a0 5 3).bind (fun t2 => (q_ldi M t2 a1).bind (fun t6 => (q_ob M a0 5).bind (fun o7 => (f_Trip_legAt M a0 t6).bind (fun t7 => (q_gti M t7 1 1).bind (fun t10 => (q_gtr M a0 5 0).bind (fun t15 => (q_gtr M t15 3 0).bind (fun t18 => (q_ldr M t18 t10).bind (fun t22 => (q_gtr M a0 5 4).bind (fun t24 => (q_ldi M t24 a1).bind (fun t28 => (q_ob M t22 0).bind (fun o29 => (f_Clock_timeOfDay M t22 t28).bind (fun t29 => (q_div t29 (360 : Int32)).bind (fun t35 => (q_gtr M a0 5 0).bind (fun t38 => (q_gtr M t38 3 4).bind (fun t41 => (q_ldr M t41 t35).bind (fun t45 => (q_ob M a0 5).bind (fun o48 => (f_Trip_legsOf M a0 a1).bind (fun t48 => (f_Math_min M t48 (4 : Int32)).bind (fun t52 => (q_ldi M t45 (t52 - (1 : Int32))).bind (fun t57 => some t57))))))))))))))))))))
def f_Trip_limitOf (M : am_M) (a0 : Nat) (a1 : Int32) : Option (Int32) := e_Trip_limitOf M a0 a1
theorem fl_Trip_143 : am_fl "CrewOffice$Trip" 143 3 0 := ⟨by decide, by decide, List.mem_of_getElem? (i := 219) (by decide +kernel)⟩
theorem fl_Trip_152 : am_fl "CrewOffice$Trip" 152 3 4 := ⟨by decide, by decide, List.mem_of_getElem? (i := 236) (by decide +kernel)⟩
theorem kV_Trip_147 : am_kV "CrewOffice$Trip" 147 0 y_Clock_timeOfDay u_Clock_timeOfDay 1 := ⟨List.mem_of_getElem? (i := 532) (by decide +kernel), ⟨List.mem_of_getElem? (i := 533) (by decide +kernel), List.mem_of_getElem? (i := 534) (by decide +kernel)⟩, List.mem_of_getElem? (i := 56) (by decide +kernel), w_Clock_timeOfDay, ⟨⟨by decide +kernel, by decide +kernel⟩, by decide +kernel⟩⟩
theorem kS_Trip_156 : am_kS "CrewOffice$Trip" 156 y_Math_min u_Math_min 2 := ⟨List.mem_of_getElem? (i := 543) (by decide +kernel), List.mem_of_getElem? (i := 544) (by decide +kernel), List.mem_of_getElem? (i := 72) (by decide +kernel), w_Math_min, ⟨⟨by decide +kernel, by decide +kernel⟩, by decide +kernel⟩⟩
set_option maxHeartbeats 4000000 in
theorem mt_Trip_limitOf {M : am_M} {a0 : Nat} {a1 : Int32} {res : Int32} (h : f_Trip_limitOf M a0 a1 = some res) : AMet y_Trip_limitOf u_Trip_limitOf R_Trip_limitOf [.ref a0, .int a1] M (fun r M2 => r = .inl (some (.int res)) ∧ M2 = M) := by
  refine am_met (by decide +kernel) w_Trip_limitOf rfl rfl (Nat.le_of_ble_eq_true rfl) ?_
  show AW u_Trip_limitOf R_Trip_limitOf 0 0 0 [(0, .ref a0), (1, .int a1)] [] M (fun r M2 => r = .inl (some (.int res)) ∧ M2 = M)
  unfold f_Trip_limitOf at h
  unfold e_Trip_limitOf at h
  refine aw_aload_n d_Trip_limitOf_0 rfl rfl ?_
  refine aw_aload_n d_Trip_limitOf_1 rfl rfl ?_
  obtain ⟨t2, e_t2, h⟩ := q_bind h
  refine aw_gtr d_Trip_limitOf_2 fl_Trip_18 (Or.inr ⟨_, rfl⟩) e_t2 ?_
  refine aw_iload_n d_Trip_limitOf_5 rfl rfl ?_
  obtain ⟨t6, e_t6, h⟩ := q_bind h
  refine aw_ldi d_Trip_limitOf_6 e_t6 ?_
  obtain ⟨o7, e_o7, h⟩ := q_bind h
  obtain ⟨t7, e_t7, h⟩ := q_bind h
  refine aw_cV (v := (some (.ref t7))) (As := [.int t6]) (rest := []) (st' := [.ref t7]) d_Trip_limitOf_7 kV_Trip_63 (q_ob_spec e_o7).1 (q_ob_spec e_o7).2 ⟨Nat.le_of_ble_eq_true rfl, Nat.le_of_ble_eq_true rfl, Nat.le_of_ble_eq_true rfl, Nat.le_of_ble_eq_true rfl⟩ rfl rfl (Nat.le_of_ble_eq_true rfl) rfl (mt_Trip_legAt e_t7) ?_
  obtain ⟨t10, e_t10, h⟩ := q_bind h
  refine aw_gti d_Trip_limitOf_10 fl_Trip_79 (Or.inl rfl) e_t10 ?_
  refine aw_istore_n (ls' := [(2, .int _), (0, .ref _), (1, .int _)]) d_Trip_limitOf_13 rfl (Nat.le_of_ble_eq_true rfl) rfl ?_
  refine aw_aload_n d_Trip_limitOf_14 rfl rfl ?_
  obtain ⟨t15, e_t15, h⟩ := q_bind h
  refine aw_gtr d_Trip_limitOf_15 fl_Trip_28 (Or.inl ⟨_, rfl⟩) e_t15 ?_
  obtain ⟨t18, e_t18, h⟩ := q_bind h
  refine aw_gtr d_Trip_limitOf_18 fl_Trip_143 (Or.inr ⟨_, rfl⟩) e_t18 ?_
  refine aw_iload_n d_Trip_limitOf_21 rfl rfl ?_
  obtain ⟨t22, e_t22, h⟩ := q_bind h
  refine aw_ldr d_Trip_limitOf_22 e_t22 ?_
  refine aw_aload_n d_Trip_limitOf_23 rfl rfl ?_
  obtain ⟨t24, e_t24, h⟩ := q_bind h
  refine aw_gtr d_Trip_limitOf_24 fl_Trip_22 (Or.inr ⟨_, rfl⟩) e_t24 ?_
  refine aw_iload_n d_Trip_limitOf_27 rfl rfl ?_
  obtain ⟨t28, e_t28, h⟩ := q_bind h
  refine aw_ldi d_Trip_limitOf_28 e_t28 ?_
  obtain ⟨o29, e_o29, h⟩ := q_bind h
  obtain ⟨t29, e_t29, h⟩ := q_bind h
  refine aw_cV (v := (some (.int t29))) (As := [.int t28]) (rest := []) (st' := [.int t29]) d_Trip_limitOf_29 kV_Trip_147 (q_ob_spec e_o29).1 (q_ob_spec e_o29).2 ⟨Nat.le_of_ble_eq_true rfl, Nat.le_of_ble_eq_true rfl, Nat.le_of_ble_eq_true rfl, Nat.le_of_ble_eq_true rfl⟩ rfl rfl (Nat.le_of_ble_eq_true rfl) rfl (mt_Clock_timeOfDay e_t29) ?_
  refine aw_sipush (v := 360) d_Trip_limitOf_32 (by decide) ?_
  obtain ⟨t35, e_t35, h⟩ := q_bind h
  refine aw_div d_Trip_limitOf_35 e_t35 ?_
  refine aw_istore_n (ls' := [(3, .int _), (2, .int _), (0, .ref _), (1, .int _)]) d_Trip_limitOf_36 rfl (Nat.le_of_ble_eq_true rfl) rfl ?_
  refine aw_aload_n d_Trip_limitOf_37 rfl rfl ?_
  obtain ⟨t38, e_t38, h⟩ := q_bind h
  refine aw_gtr d_Trip_limitOf_38 fl_Trip_28 (Or.inl ⟨_, rfl⟩) e_t38 ?_
  obtain ⟨t41, e_t41, h⟩ := q_bind h
  refine aw_gtr d_Trip_limitOf_41 fl_Trip_152 (Or.inr ⟨_, rfl⟩) e_t41 ?_
  refine aw_iload_n d_Trip_limitOf_44 rfl rfl ?_
  obtain ⟨t45, e_t45, h⟩ := q_bind h
  refine aw_ldr d_Trip_limitOf_45 e_t45 ?_
  refine aw_aload_n d_Trip_limitOf_46 rfl rfl ?_
  refine aw_iload_n d_Trip_limitOf_47 rfl rfl ?_
  obtain ⟨o48, e_o48, h⟩ := q_bind h
  obtain ⟨t48, e_t48, h⟩ := q_bind h
  refine aw_cV (v := (some (.int t48))) (As := [.int a1]) (rest := [.ref t45]) (st' := [.int t48, .ref t45]) d_Trip_limitOf_48 kV_Trip_137 (q_ob_spec e_o48).1 (q_ob_spec e_o48).2 ⟨Nat.le_of_ble_eq_true rfl, Nat.le_of_ble_eq_true rfl, Nat.le_of_ble_eq_true rfl, Nat.le_of_ble_eq_true rfl⟩ rfl rfl (Nat.le_of_ble_eq_true rfl) rfl (mt_Trip_legsOf e_t48) ?_
  refine aw_iconst (v := 4) d_Trip_limitOf_51 (by decide) ?_
  obtain ⟨t52, e_t52, h⟩ := q_bind h
  refine aw_cS (v := (some (.int t52))) (As := [.int t48, .int (4 : Int32)]) (rest := [.ref t45]) (st' := [.int t52, .ref t45]) d_Trip_limitOf_52 kS_Trip_156 ⟨Nat.le_of_ble_eq_true rfl, Nat.le_of_ble_eq_true rfl, Nat.le_of_ble_eq_true rfl, Nat.le_of_ble_eq_true rfl⟩ rfl rfl (Nat.le_of_ble_eq_true rfl) rfl (mt_Math_min e_t52) ?_
  refine aw_iconst (v := 1) d_Trip_limitOf_55 (by decide) ?_
  refine aw_isub d_Trip_limitOf_56 ?_
  obtain ⟨t57, e_t57, h⟩ := q_bind h
  refine aw_ldi d_Trip_limitOf_57 e_t57 ?_
  cases h
  exact aw_ireturn d_Trip_limitOf_58 rfl (Nat.le_of_ble_eq_true rfl) (Nat.le_of_ble_eq_true rfl) ⟨rfl, rfl⟩
