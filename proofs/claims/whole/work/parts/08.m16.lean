-- Trip_lacksNightRest Trip_leastBroken
def y_Trip_lacksNightRest : MethodName := ⟨"CrewOffice$Trip", "lacksNightRest", "()Z"⟩
def u_Trip_lacksNightRest : am_U := ("CrewOffice$Trip", "lacksNightRest", prog_9_method_15_code, 3, (some .boolean), [])
def R_Trip_lacksNightRest : Room := { frames := 3, cells := 0, slots := 0, locals := 72 }
theorem d_Trip_lacksNightRest_0 : decode u_Trip_lacksNightRest.2.2.1 0 = .ok (.iconst 1, 1) := by decide +kernel
theorem d_Trip_lacksNightRest_1 : decode u_Trip_lacksNightRest.2.2.1 1 = .ok (.istore_n 1, 1) := by decide +kernel
theorem d_Trip_lacksNightRest_2 : decode u_Trip_lacksNightRest.2.2.1 2 = .ok (.iload_n 1, 1) := by decide +kernel
theorem d_Trip_lacksNightRest_3 : decode u_Trip_lacksNightRest.2.2.1 3 = .ok (.aload_n 0, 1) := by decide +kernel
theorem d_Trip_lacksNightRest_4 : decode u_Trip_lacksNightRest.2.2.1 4 = .ok (.getfield 51, 3) := by decide +kernel
theorem d_Trip_lacksNightRest_7 : decode u_Trip_lacksNightRest.2.2.1 7 = .ok (.if_icmp .ge 54, 3) := by decide +kernel
theorem d_Trip_lacksNightRest_10 : decode u_Trip_lacksNightRest.2.2.1 10 = .ok (.aload_n 0, 1) := by decide +kernel
theorem d_Trip_lacksNightRest_11 : decode u_Trip_lacksNightRest.2.2.1 11 = .ok (.getfield 28, 3) := by decide +kernel
theorem d_Trip_lacksNightRest_14 : decode u_Trip_lacksNightRest.2.2.1 14 = .ok (.getfield 143, 3) := by decide +kernel
theorem d_Trip_lacksNightRest_17 : decode u_Trip_lacksNightRest.2.2.1 17 = .ok (.aload_n 0, 1) := by decide +kernel
theorem d_Trip_lacksNightRest_18 : decode u_Trip_lacksNightRest.2.2.1 18 = .ok (.aload_n 0, 1) := by decide +kernel
theorem d_Trip_lacksNightRest_19 : decode u_Trip_lacksNightRest.2.2.1 19 = .ok (.getfield 18, 3) := by decide +kernel
theorem d_Trip_lacksNightRest_22 : decode u_Trip_lacksNightRest.2.2.1 22 = .ok (.iload_n 1, 1) := by decide +kernel
theorem d_Trip_lacksNightRest_23 : decode u_Trip_lacksNightRest.2.2.1 23 = .ok (.iaload, 1) := by decide +kernel
theorem d_Trip_lacksNightRest_24 : decode u_Trip_lacksNightRest.2.2.1 24 = .ok (.invokevirtual 63, 3) := by decide +kernel
theorem d_Trip_lacksNightRest_27 : decode u_Trip_lacksNightRest.2.2.1 27 = .ok (.getfield 79, 3) := by decide +kernel
theorem d_Trip_lacksNightRest_30 : decode u_Trip_lacksNightRest.2.2.1 30 = .ok (.aaload, 1) := by decide +kernel
theorem d_Trip_lacksNightRest_31 : decode u_Trip_lacksNightRest.2.2.1 31 = .ok (.astore_n 2, 1) := by decide +kernel
theorem d_Trip_lacksNightRest_32 : decode u_Trip_lacksNightRest.2.2.1 32 = .ok (.aload_n 2, 1) := by decide +kernel
theorem d_Trip_lacksNightRest_33 : decode u_Trip_lacksNightRest.2.2.1 33 = .ok (.aload_n 0, 1) := by decide +kernel
theorem d_Trip_lacksNightRest_34 : decode u_Trip_lacksNightRest.2.2.1 34 = .ok (.getfield 25, 3) := by decide +kernel
theorem d_Trip_lacksNightRest_37 : decode u_Trip_lacksNightRest.2.2.1 37 = .ok (.iload_n 1, 1) := by decide +kernel
theorem d_Trip_lacksNightRest_38 : decode u_Trip_lacksNightRest.2.2.1 38 = .ok (.iconst 1, 1) := by decide +kernel
theorem d_Trip_lacksNightRest_39 : decode u_Trip_lacksNightRest.2.2.1 39 = .ok (.isub, 1) := by decide +kernel
theorem d_Trip_lacksNightRest_40 : decode u_Trip_lacksNightRest.2.2.1 40 = .ok (.iaload, 1) := by decide +kernel
theorem d_Trip_lacksNightRest_41 : decode u_Trip_lacksNightRest.2.2.1 41 = .ok (.aload_n 0, 1) := by decide +kernel
theorem d_Trip_lacksNightRest_42 : decode u_Trip_lacksNightRest.2.2.1 42 = .ok (.getfield 22, 3) := by decide +kernel
theorem d_Trip_lacksNightRest_45 : decode u_Trip_lacksNightRest.2.2.1 45 = .ok (.iload_n 1, 1) := by decide +kernel
theorem d_Trip_lacksNightRest_46 : decode u_Trip_lacksNightRest.2.2.1 46 = .ok (.iaload, 1) := by decide +kernel
theorem d_Trip_lacksNightRest_47 : decode u_Trip_lacksNightRest.2.2.1 47 = .ok (.invokevirtual 159, 3) := by decide +kernel
theorem d_Trip_lacksNightRest_50 : decode u_Trip_lacksNightRest.2.2.1 50 = .ok (.ifCond .ne 5, 3) := by decide +kernel
theorem d_Trip_lacksNightRest_53 : decode u_Trip_lacksNightRest.2.2.1 53 = .ok (.iconst 1, 1) := by decide +kernel
theorem d_Trip_lacksNightRest_54 : decode u_Trip_lacksNightRest.2.2.1 54 = .ok (.ireturn, 1) := by decide +kernel
theorem d_Trip_lacksNightRest_55 : decode u_Trip_lacksNightRest.2.2.1 55 = .ok (.iinc 1 1, 3) := by decide +kernel
theorem d_Trip_lacksNightRest_58 : decode u_Trip_lacksNightRest.2.2.1 58 = .ok (.goto (-56), 3) := by decide +kernel
theorem d_Trip_lacksNightRest_61 : decode u_Trip_lacksNightRest.2.2.1 61 = .ok (.iconst 0, 1) := by decide +kernel
theorem d_Trip_lacksNightRest_62 : decode u_Trip_lacksNightRest.2.2.1 62 = .ok (.ireturn, 1) := by decide +kernel
theorem w_Trip_lacksNightRest : am_code y_Trip_lacksNightRest u_Trip_lacksNightRest ∈ am_ws := am_mem (List.mem_of_getElem? (i := 556) (by decide +kernel)) rfl
def a_Trip_lacksNightRest_0 (rc : Nat → Nat → Int32 → am_M → Option (Int32)) (r0 : Nat) (x1 : Int32) (M : am_M) : Option (Int32) := (q_gti M r0 5 2).bind (fun t4 => if t4 ≤ x1 then (some (0 : Int32)) else ((q_gtr M r0 5 0).bind (fun t11 => (q_gtr M t11 3 0).bind (fun t14 => (q_gtr M r0 5 3).bind (fun t19 => (q_ldi M t19 x1).bind (fun t23 => (q_ob M r0 5).bind (fun o24 => (f_Trip_legAt M r0 t23).bind (fun t24 => (q_gti M t24 1 1).bind (fun t27 => (q_ldr M t14 t27).bind (fun t30 => (q_gtr M r0 5 5).bind (fun t34 => (q_ldi M t34 (x1 - (1 : Int32))).bind (fun t40 => (q_gtr M r0 5 4).bind (fun t42 => (q_ldi M t42 x1).bind (fun t46 => (q_ob M t30 0).bind (fun o47 => (f_Clock_hasNightRest M t30 t40 t46).bind (fun t47 => if t47 = 0 then (some (1 : Int32)) else (rc 0 r0 (x1 + (1 : Int32)) M)))))))))))))))))
def g_Trip_lacksNightRest : Nat → Nat → Nat → Int32 → am_M → Option (Int32)
  | 0, _, _, _, _ => none
  | F + 1, 0, r0, x1, M => a_Trip_lacksNightRest_0 (g_Trip_lacksNightRest F) r0 x1 M
  | _ + 1, _ + 1, _, _, _ => none
def e_Trip_lacksNightRest (rc : Nat → Nat → Int32 → am_M → Option (Int32)) (M : am_M) (a0 : Nat) : Option (Int32) := rc 0 a0 (1 : Int32) M
def f_Trip_lacksNightRest (M : am_M) (a0 : Nat) : Option (Int32) := e_Trip_lacksNightRest (g_Trip_lacksNightRest 1000000000) M a0
theorem kV_Trip_159 : am_kV "CrewOffice$Trip" 159 0 y_Clock_hasNightRest u_Clock_hasNightRest 2 := ⟨List.mem_of_getElem? (i := 557) (by decide +kernel), ⟨List.mem_of_getElem? (i := 558) (by decide +kernel), List.mem_of_getElem? (i := 559) (by decide +kernel)⟩, List.mem_of_getElem? (i := 56) (by decide +kernel), w_Clock_hasNightRest, ⟨⟨by decide +kernel, by decide +kernel⟩, by decide +kernel⟩⟩
set_option maxHeartbeats 4000000 in
theorem s_Trip_lacksNightRest_0 {rc : Nat → Nat → Int32 → am_M → Option (Int32)} {res : Int32} (ih_0 : ∀ (r0 : Nat) (x1 : Int32) (M : am_M), rc 0 r0 x1 M = some res → AW u_Trip_lacksNightRest R_Trip_lacksNightRest 0 0 2 [(0, .ref r0), (1, .int x1)] [] M (fun r M2 => r = .inl (some (.int res)) ∧ M2 = M)) : ∀ (r0 : Nat) (x1 : Int32) (M : am_M), a_Trip_lacksNightRest_0 rc r0 x1 M = some res → AW u_Trip_lacksNightRest R_Trip_lacksNightRest 0 0 2 [(0, .ref r0), (1, .int x1)] [] M (fun r M2 => r = .inl (some (.int res)) ∧ M2 = M) := by
  intro r0 x1 M h
  unfold a_Trip_lacksNightRest_0 at h
  refine aw_iload_n d_Trip_lacksNightRest_2 rfl rfl ?_
  refine aw_aload_n d_Trip_lacksNightRest_3 rfl rfl ?_
  obtain ⟨t4, e_t4, h⟩ := q_bind h
  refine aw_gti d_Trip_lacksNightRest_4 fl_Trip_51 (Or.inl rfl) e_t4 ?_
  refine aw_icmp_ge (tgt := 61) d_Trip_lacksNightRest_7 (by decide) (fun hc => ?_) (fun hc => ?_)
  · rw [if_pos hc] at h
    refine aw_iconst (v := 0) d_Trip_lacksNightRest_61 (by decide) ?_
    cases h
    exact aw_zreturn d_Trip_lacksNightRest_62 rfl (by decide) (Nat.le_of_ble_eq_true rfl) (Nat.le_of_ble_eq_true rfl) ⟨rfl, rfl⟩
  · rw [if_neg hc] at h
    refine aw_aload_n d_Trip_lacksNightRest_10 rfl rfl ?_
    obtain ⟨t11, e_t11, h⟩ := q_bind h
    refine aw_gtr d_Trip_lacksNightRest_11 fl_Trip_28 (Or.inl ⟨_, rfl⟩) e_t11 ?_
    obtain ⟨t14, e_t14, h⟩ := q_bind h
    refine aw_gtr d_Trip_lacksNightRest_14 fl_Trip_143 (Or.inr ⟨_, rfl⟩) e_t14 ?_
    refine aw_aload_n d_Trip_lacksNightRest_17 rfl rfl ?_
    refine aw_aload_n d_Trip_lacksNightRest_18 rfl rfl ?_
    obtain ⟨t19, e_t19, h⟩ := q_bind h
    refine aw_gtr d_Trip_lacksNightRest_19 fl_Trip_18 (Or.inr ⟨_, rfl⟩) e_t19 ?_
    refine aw_iload_n d_Trip_lacksNightRest_22 rfl rfl ?_
    obtain ⟨t23, e_t23, h⟩ := q_bind h
    refine aw_ldi d_Trip_lacksNightRest_23 e_t23 ?_
    obtain ⟨o24, e_o24, h⟩ := q_bind h
    obtain ⟨t24, e_t24, h⟩ := q_bind h
    refine aw_cV (v := (some (.ref t24))) (As := [.int t23]) (rest := [.ref t14]) (st' := [.ref t24, .ref t14]) d_Trip_lacksNightRest_24 kV_Trip_63 (q_ob_spec e_o24).1 (q_ob_spec e_o24).2 ⟨Nat.le_of_ble_eq_true rfl, Nat.le_of_ble_eq_true rfl, Nat.le_of_ble_eq_true rfl, Nat.le_of_ble_eq_true rfl⟩ rfl rfl (Nat.le_of_ble_eq_true rfl) rfl (mt_Trip_legAt e_t24) ?_
    obtain ⟨t27, e_t27, h⟩ := q_bind h
    refine aw_gti d_Trip_lacksNightRest_27 fl_Trip_79 (Or.inl rfl) e_t27 ?_
    obtain ⟨t30, e_t30, h⟩ := q_bind h
    refine aw_ldr d_Trip_lacksNightRest_30 e_t30 ?_
    refine aw_astore_n (ls' := [(2, .ref _), (0, .ref _), (1, .int _)]) d_Trip_lacksNightRest_31 rfl (Nat.le_of_ble_eq_true rfl) rfl ?_
    refine aw_aload_n d_Trip_lacksNightRest_32 rfl rfl ?_
    refine aw_aload_n d_Trip_lacksNightRest_33 rfl rfl ?_
    obtain ⟨t34, e_t34, h⟩ := q_bind h
    refine aw_gtr d_Trip_lacksNightRest_34 fl_Trip_25 (Or.inr ⟨_, rfl⟩) e_t34 ?_
    refine aw_iload_n d_Trip_lacksNightRest_37 rfl rfl ?_
    refine aw_iconst (v := 1) d_Trip_lacksNightRest_38 (by decide) ?_
    refine aw_isub d_Trip_lacksNightRest_39 ?_
    obtain ⟨t40, e_t40, h⟩ := q_bind h
    refine aw_ldi d_Trip_lacksNightRest_40 e_t40 ?_
    refine aw_aload_n d_Trip_lacksNightRest_41 rfl rfl ?_
    obtain ⟨t42, e_t42, h⟩ := q_bind h
    refine aw_gtr d_Trip_lacksNightRest_42 fl_Trip_22 (Or.inr ⟨_, rfl⟩) e_t42 ?_
    refine aw_iload_n d_Trip_lacksNightRest_45 rfl rfl ?_
    obtain ⟨t46, e_t46, h⟩ := q_bind h
    refine aw_ldi d_Trip_lacksNightRest_46 e_t46 ?_
    obtain ⟨o47, e_o47, h⟩ := q_bind h
    obtain ⟨t47, e_t47, h⟩ := q_bind h
    refine aw_cV (v := (some (.int t47))) (As := [.int t40, .int t46]) (rest := []) (st' := [.int t47]) d_Trip_lacksNightRest_47 kV_Trip_159 (q_ob_spec e_o47).1 (q_ob_spec e_o47).2 ⟨Nat.le_of_ble_eq_true rfl, Nat.le_of_ble_eq_true rfl, Nat.le_of_ble_eq_true rfl, Nat.le_of_ble_eq_true rfl⟩ rfl rfl (Nat.le_of_ble_eq_true rfl) rfl (mt_Clock_hasNightRest e_t47) ?_
    refine aw_if_ne (tgt := 55) d_Trip_lacksNightRest_50 (by decide) (fun hc => ?_) (fun hc => ?_)
    · rw [if_neg hc] at h
      refine aw_iinc (v := (x1 + (1 : Int32))) (ls' := [(1, .int _), (2, .ref _), (0, .ref _)]) d_Trip_lacksNightRest_55 rfl rfl (Nat.le_of_ble_eq_true rfl) rfl ?_
      refine aw_goto (tgt := 2) d_Trip_lacksNightRest_58 (by decide) ?_
      exact aw_pick [2, 0] rfl (ih_0 _ _ _ h)
    · rw [if_pos hc] at h
      refine aw_iconst (v := 1) d_Trip_lacksNightRest_53 (by decide) ?_
      cases h
      exact aw_zreturn d_Trip_lacksNightRest_54 rfl (by decide) (Nat.le_of_ble_eq_true rfl) (Nat.le_of_ble_eq_true rfl) ⟨rfl, rfl⟩
theorem l_Trip_lacksNightRest {res : Int32} : ∀ F : Nat, (∀ (r0 : Nat) (x1 : Int32) (M : am_M), g_Trip_lacksNightRest F 0 r0 x1 M = some res → AW u_Trip_lacksNightRest R_Trip_lacksNightRest 0 0 2 [(0, .ref r0), (1, .int x1)] [] M (fun r M2 => r = .inl (some (.int res)) ∧ M2 = M)) := by
  intro F
  induction F with
  | zero => exact fun _ _ _  h => (by cases h)
  | succ F ih =>
    have ih0 := ih
    exact s_Trip_lacksNightRest_0 ih0
set_option maxHeartbeats 4000000 in
theorem mt_Trip_lacksNightRest {M : am_M} {a0 : Nat} {res : Int32} (h : f_Trip_lacksNightRest M a0 = some res) : AMet y_Trip_lacksNightRest u_Trip_lacksNightRest R_Trip_lacksNightRest [.ref a0] M (fun r M2 => r = .inl (some (.int res)) ∧ M2 = M) := by
  refine am_met (by decide +kernel) w_Trip_lacksNightRest rfl rfl (Nat.le_of_ble_eq_true rfl) ?_
  show AW u_Trip_lacksNightRest R_Trip_lacksNightRest 0 0 0 [(0, .ref a0)] [] M (fun r M2 => r = .inl (some (.int res)) ∧ M2 = M)
  have ih_0 := (l_Trip_lacksNightRest (res := res) 1000000000)
  unfold f_Trip_lacksNightRest at h
  unfold e_Trip_lacksNightRest at h
  generalize g_Trip_lacksNightRest 1000000000 = rc at h ih_0
  refine aw_iconst (v := 1) d_Trip_lacksNightRest_0 (by decide) ?_
  refine aw_istore_n (ls' := [(1, .int _), (0, .ref _)]) d_Trip_lacksNightRest_1 rfl (Nat.le_of_ble_eq_true rfl) rfl ?_
  exact aw_pick [1, 0] rfl (ih_0 _ _ _ h)
def y_Trip_leastBroken : MethodName := ⟨"CrewOffice$Trip", "leastBroken", "(I)I"⟩
def u_Trip_leastBroken : am_U := ("CrewOffice$Trip", "leastBroken", prog_9_method_9_code, 2, (some .int), [])
def R_Trip_leastBroken : Room := { frames := 4, cells := 0, slots := 0, locals := 94 }
theorem d_Trip_leastBroken_0 : decode u_Trip_leastBroken.2.2.1 0 = .ok (.aload_n 0, 1) := by decide +kernel
theorem d_Trip_leastBroken_1 : decode u_Trip_leastBroken.2.2.1 1 = .ok (.getfield 12, 3) := by decide +kernel
theorem d_Trip_leastBroken_4 : decode u_Trip_leastBroken.2.2.1 4 = .ok (.getfield 35, 3) := by decide +kernel
theorem d_Trip_leastBroken_7 : decode u_Trip_leastBroken.2.2.1 7 = .ok (.ifCond .eq 21, 3) := by decide +kernel
theorem d_Trip_leastBroken_10 : decode u_Trip_leastBroken.2.2.1 10 = .ok (.aload_n 0, 1) := by decide +kernel
theorem d_Trip_leastBroken_11 : decode u_Trip_leastBroken.2.2.1 11 = .ok (.getfield 28, 3) := by decide +kernel
theorem d_Trip_leastBroken_14 : decode u_Trip_leastBroken.2.2.1 14 = .ok (.iload_n 1, 1) := by decide +kernel
theorem d_Trip_leastBroken_15 : decode u_Trip_leastBroken.2.2.1 15 = .ok (.aload_n 0, 1) := by decide +kernel
theorem d_Trip_leastBroken_16 : decode u_Trip_leastBroken.2.2.1 16 = .ok (.getfield 12, 3) := by decide +kernel
theorem d_Trip_leastBroken_19 : decode u_Trip_leastBroken.2.2.1 19 = .ok (.getfield 82, 3) := by decide +kernel
theorem d_Trip_leastBroken_22 : decode u_Trip_leastBroken.2.2.1 22 = .ok (.invokevirtual 101, 3) := by decide +kernel
theorem d_Trip_leastBroken_25 : decode u_Trip_leastBroken.2.2.1 25 = .ok (.ifCond .ne 5, 3) := by decide +kernel
theorem d_Trip_leastBroken_28 : decode u_Trip_leastBroken.2.2.1 28 = .ok (.iconst 1, 1) := by decide +kernel
theorem d_Trip_leastBroken_29 : decode u_Trip_leastBroken.2.2.1 29 = .ok (.ireturn, 1) := by decide +kernel
theorem d_Trip_leastBroken_30 : decode u_Trip_leastBroken.2.2.1 30 = .ok (.aload_n 0, 1) := by decide +kernel
theorem d_Trip_leastBroken_31 : decode u_Trip_leastBroken.2.2.1 31 = .ok (.invokevirtual 105, 3) := by decide +kernel
theorem d_Trip_leastBroken_34 : decode u_Trip_leastBroken.2.2.1 34 = .ok (.ifCond .ne 5, 3) := by decide +kernel
theorem d_Trip_leastBroken_37 : decode u_Trip_leastBroken.2.2.1 37 = .ok (.iconst 2, 1) := by decide +kernel
theorem d_Trip_leastBroken_38 : decode u_Trip_leastBroken.2.2.1 38 = .ok (.ireturn, 1) := by decide +kernel
theorem d_Trip_leastBroken_39 : decode u_Trip_leastBroken.2.2.1 39 = .ok (.aload_n 0, 1) := by decide +kernel
theorem d_Trip_leastBroken_40 : decode u_Trip_leastBroken.2.2.1 40 = .ok (.invokevirtual 109, 3) := by decide +kernel
theorem d_Trip_leastBroken_43 : decode u_Trip_leastBroken.2.2.1 43 = .ok (.ifCond .eq 5, 3) := by decide +kernel
theorem d_Trip_leastBroken_46 : decode u_Trip_leastBroken.2.2.1 46 = .ok (.iconst 3, 1) := by decide +kernel
theorem d_Trip_leastBroken_47 : decode u_Trip_leastBroken.2.2.1 47 = .ok (.ireturn, 1) := by decide +kernel
theorem d_Trip_leastBroken_48 : decode u_Trip_leastBroken.2.2.1 48 = .ok (.aload_n 0, 1) := by decide +kernel
theorem d_Trip_leastBroken_49 : decode u_Trip_leastBroken.2.2.1 49 = .ok (.invokevirtual 112, 3) := by decide +kernel
theorem d_Trip_leastBroken_52 : decode u_Trip_leastBroken.2.2.1 52 = .ok (.ifCond .eq 5, 3) := by decide +kernel
theorem d_Trip_leastBroken_55 : decode u_Trip_leastBroken.2.2.1 55 = .ok (.iconst 4, 1) := by decide +kernel
theorem d_Trip_leastBroken_56 : decode u_Trip_leastBroken.2.2.1 56 = .ok (.ireturn, 1) := by decide +kernel
theorem d_Trip_leastBroken_57 : decode u_Trip_leastBroken.2.2.1 57 = .ok (.aload_n 0, 1) := by decide +kernel
theorem d_Trip_leastBroken_58 : decode u_Trip_leastBroken.2.2.1 58 = .ok (.invokevirtual 115, 3) := by decide +kernel
theorem d_Trip_leastBroken_61 : decode u_Trip_leastBroken.2.2.1 61 = .ok (.ifCond .eq 5, 3) := by decide +kernel
theorem d_Trip_leastBroken_64 : decode u_Trip_leastBroken.2.2.1 64 = .ok (.iconst 5, 1) := by decide +kernel
theorem d_Trip_leastBroken_65 : decode u_Trip_leastBroken.2.2.1 65 = .ok (.ireturn, 1) := by decide +kernel
theorem d_Trip_leastBroken_66 : decode u_Trip_leastBroken.2.2.1 66 = .ok (.aload_n 0, 1) := by decide +kernel
theorem d_Trip_leastBroken_67 : decode u_Trip_leastBroken.2.2.1 67 = .ok (.getfield 28, 3) := by decide +kernel
theorem d_Trip_leastBroken_70 : decode u_Trip_leastBroken.2.2.1 70 = .ok (.getfield 73, 3) := by decide +kernel
theorem d_Trip_leastBroken_73 : decode u_Trip_leastBroken.2.2.1 73 = .ok (.bipush 9, 2) := by decide +kernel
theorem d_Trip_leastBroken_75 : decode u_Trip_leastBroken.2.2.1 75 = .ok (.iaload, 1) := by decide +kernel
theorem d_Trip_leastBroken_76 : decode u_Trip_leastBroken.2.2.1 76 = .ok (.iconst 1, 1) := by decide +kernel
theorem d_Trip_leastBroken_77 : decode u_Trip_leastBroken.2.2.1 77 = .ok (.if_icmp .ne 13, 3) := by decide +kernel
theorem d_Trip_leastBroken_80 : decode u_Trip_leastBroken.2.2.1 80 = .ok (.aload_n 0, 1) := by decide +kernel
theorem d_Trip_leastBroken_81 : decode u_Trip_leastBroken.2.2.1 81 = .ok (.invokevirtual 118, 3) := by decide +kernel
theorem d_Trip_leastBroken_84 : decode u_Trip_leastBroken.2.2.1 84 = .ok (.ifCond .eq 6, 3) := by decide +kernel
theorem d_Trip_leastBroken_87 : decode u_Trip_leastBroken.2.2.1 87 = .ok (.bipush 6, 2) := by decide +kernel
theorem d_Trip_leastBroken_89 : decode u_Trip_leastBroken.2.2.1 89 = .ok (.ireturn, 1) := by decide +kernel
theorem d_Trip_leastBroken_90 : decode u_Trip_leastBroken.2.2.1 90 = .ok (.aload_n 0, 1) := by decide +kernel
theorem d_Trip_leastBroken_91 : decode u_Trip_leastBroken.2.2.1 91 = .ok (.getfield 51, 3) := by decide +kernel
theorem d_Trip_leastBroken_94 : decode u_Trip_leastBroken.2.2.1 94 = .ok (.aload_n 0, 1) := by decide +kernel
theorem d_Trip_leastBroken_95 : decode u_Trip_leastBroken.2.2.1 95 = .ok (.getfield 28, 3) := by decide +kernel
theorem d_Trip_leastBroken_98 : decode u_Trip_leastBroken.2.2.1 98 = .ok (.getfield 73, 3) := by decide +kernel
theorem d_Trip_leastBroken_101 : decode u_Trip_leastBroken.2.2.1 101 = .ok (.bipush 6, 2) := by decide +kernel
theorem d_Trip_leastBroken_103 : decode u_Trip_leastBroken.2.2.1 103 = .ok (.iaload, 1) := by decide +kernel
theorem d_Trip_leastBroken_104 : decode u_Trip_leastBroken.2.2.1 104 = .ok (.if_icmp .le 6, 3) := by decide +kernel
theorem d_Trip_leastBroken_107 : decode u_Trip_leastBroken.2.2.1 107 = .ok (.bipush 7, 2) := by decide +kernel
theorem d_Trip_leastBroken_109 : decode u_Trip_leastBroken.2.2.1 109 = .ok (.ireturn, 1) := by decide +kernel
theorem d_Trip_leastBroken_110 : decode u_Trip_leastBroken.2.2.1 110 = .ok (.aload_n 0, 1) := by decide +kernel
theorem d_Trip_leastBroken_111 : decode u_Trip_leastBroken.2.2.1 111 = .ok (.aload_n 0, 1) := by decide +kernel
theorem d_Trip_leastBroken_112 : decode u_Trip_leastBroken.2.2.1 112 = .ok (.getfield 12, 3) := by decide +kernel
theorem d_Trip_leastBroken_115 : decode u_Trip_leastBroken.2.2.1 115 = .ok (.getfield 35, 3) := by decide +kernel
theorem d_Trip_leastBroken_118 : decode u_Trip_leastBroken.2.2.1 118 = .ok (.iconst 1, 1) := by decide +kernel
theorem d_Trip_leastBroken_119 : decode u_Trip_leastBroken.2.2.1 119 = .ok (.isub, 1) := by decide +kernel
theorem d_Trip_leastBroken_120 : decode u_Trip_leastBroken.2.2.1 120 = .ok (.invokevirtual 63, 3) := by decide +kernel
theorem d_Trip_leastBroken_123 : decode u_Trip_leastBroken.2.2.1 123 = .ok (.getfield 121, 3) := by decide +kernel
theorem d_Trip_leastBroken_126 : decode u_Trip_leastBroken.2.2.1 126 = .ok (.aload_n 0, 1) := by decide +kernel
theorem d_Trip_leastBroken_127 : decode u_Trip_leastBroken.2.2.1 127 = .ok (.getfield 12, 3) := by decide +kernel
theorem d_Trip_leastBroken_130 : decode u_Trip_leastBroken.2.2.1 130 = .ok (.getfield 82, 3) := by decide +kernel
theorem d_Trip_leastBroken_133 : decode u_Trip_leastBroken.2.2.1 133 = .ok (.if_icmp .eq 6, 3) := by decide +kernel
theorem d_Trip_leastBroken_136 : decode u_Trip_leastBroken.2.2.1 136 = .ok (.bipush 8, 2) := by decide +kernel
theorem d_Trip_leastBroken_138 : decode u_Trip_leastBroken.2.2.1 138 = .ok (.ireturn, 1) := by decide +kernel
theorem d_Trip_leastBroken_139 : decode u_Trip_leastBroken.2.2.1 139 = .ok (.aload_n 0, 1) := by decide +kernel
theorem d_Trip_leastBroken_140 : decode u_Trip_leastBroken.2.2.1 140 = .ok (.getfield 12, 3) := by decide +kernel
theorem d_Trip_leastBroken_143 : decode u_Trip_leastBroken.2.2.1 143 = .ok (.getfield 88, 3) := by decide +kernel
theorem d_Trip_leastBroken_146 : decode u_Trip_leastBroken.2.2.1 146 = .ok (.aload_n 0, 1) := by decide +kernel
theorem d_Trip_leastBroken_147 : decode u_Trip_leastBroken.2.2.1 147 = .ok (.getfield 12, 3) := by decide +kernel
theorem d_Trip_leastBroken_150 : decode u_Trip_leastBroken.2.2.1 150 = .ok (.getfield 85, 3) := by decide +kernel
theorem d_Trip_leastBroken_153 : decode u_Trip_leastBroken.2.2.1 153 = .ok (.isub, 1) := by decide +kernel
theorem d_Trip_leastBroken_154 : decode u_Trip_leastBroken.2.2.1 154 = .ok (.aload_n 0, 1) := by decide +kernel
theorem d_Trip_leastBroken_155 : decode u_Trip_leastBroken.2.2.1 155 = .ok (.getfield 28, 3) := by decide +kernel
theorem d_Trip_leastBroken_158 : decode u_Trip_leastBroken.2.2.1 158 = .ok (.getfield 73, 3) := by decide +kernel
theorem d_Trip_leastBroken_161 : decode u_Trip_leastBroken.2.2.1 161 = .ok (.bipush 7, 2) := by decide +kernel
theorem d_Trip_leastBroken_163 : decode u_Trip_leastBroken.2.2.1 163 = .ok (.iaload, 1) := by decide +kernel
theorem d_Trip_leastBroken_164 : decode u_Trip_leastBroken.2.2.1 164 = .ok (.if_icmp .le 6, 3) := by decide +kernel
theorem d_Trip_leastBroken_167 : decode u_Trip_leastBroken.2.2.1 167 = .ok (.bipush 9, 2) := by decide +kernel
theorem d_Trip_leastBroken_169 : decode u_Trip_leastBroken.2.2.1 169 = .ok (.ireturn, 1) := by decide +kernel
theorem d_Trip_leastBroken_170 : decode u_Trip_leastBroken.2.2.1 170 = .ok (.iload_n 1, 1) := by decide +kernel
theorem d_Trip_leastBroken_171 : decode u_Trip_leastBroken.2.2.1 171 = .ok (.iconst (-1), 1) := by decide +kernel
theorem d_Trip_leastBroken_172 : decode u_Trip_leastBroken.2.2.1 172 = .ok (.if_icmp .ne 7, 3) := by decide +kernel
theorem d_Trip_leastBroken_175 : decode u_Trip_leastBroken.2.2.1 175 = .ok (.iconst 0, 1) := by decide +kernel
theorem d_Trip_leastBroken_176 : decode u_Trip_leastBroken.2.2.1 176 = .ok (.goto 29, 3) := by decide +kernel
theorem d_Trip_leastBroken_179 : decode u_Trip_leastBroken.2.2.1 179 = .ok (.aload_n 0, 1) := by decide +kernel
theorem d_Trip_leastBroken_180 : decode u_Trip_leastBroken.2.2.1 180 = .ok (.getfield 28, 3) := by decide +kernel
theorem d_Trip_leastBroken_183 : decode u_Trip_leastBroken.2.2.1 183 = .ok (.getfield 124, 3) := by decide +kernel
theorem d_Trip_leastBroken_186 : decode u_Trip_leastBroken.2.2.1 186 = .ok (.iload_n 1, 1) := by decide +kernel
theorem d_Trip_leastBroken_187 : decode u_Trip_leastBroken.2.2.1 187 = .ok (.aaload, 1) := by decide +kernel
theorem d_Trip_leastBroken_188 : decode u_Trip_leastBroken.2.2.1 188 = .ok (.aload_n 0, 1) := by decide +kernel
theorem d_Trip_leastBroken_189 : decode u_Trip_leastBroken.2.2.1 189 = .ok (.getfield 12, 3) := by decide +kernel
theorem d_Trip_leastBroken_192 : decode u_Trip_leastBroken.2.2.1 192 = .ok (.aload_n 0, 1) := by decide +kernel
theorem d_Trip_leastBroken_193 : decode u_Trip_leastBroken.2.2.1 193 = .ok (.getfield 28, 3) := by decide +kernel
theorem d_Trip_leastBroken_196 : decode u_Trip_leastBroken.2.2.1 196 = .ok (.getfield 73, 3) := by decide +kernel
theorem d_Trip_leastBroken_199 : decode u_Trip_leastBroken.2.2.1 199 = .ok (.bipush 10, 2) := by decide +kernel
theorem d_Trip_leastBroken_201 : decode u_Trip_leastBroken.2.2.1 201 = .ok (.iaload, 1) := by decide +kernel
theorem d_Trip_leastBroken_202 : decode u_Trip_leastBroken.2.2.1 202 = .ok (.invokevirtual 128, 3) := by decide +kernel
theorem d_Trip_leastBroken_205 : decode u_Trip_leastBroken.2.2.1 205 = .ok (.ireturn, 1) := by decide +kernel
theorem w_Trip_leastBroken : am_code y_Trip_leastBroken u_Trip_leastBroken ∈ am_ws := am_mem (List.mem_of_getElem? (i := 505) (by decide +kernel)) rfl
def a_Trip_leastBroken_0 (rc : Nat → Nat → Int32 → am_M → Option (Int32)) (r0 : Nat) (x1 : Int32) (M : am_M) : Option (Int32) := (q_gti M r0 5 2).bind (fun t91 => (q_gtr M r0 5 0).bind (fun t95 => (q_gtr M t95 3 3).bind (fun t98 => (q_ldi M t98 (6 : Int32)).bind (fun t103 => if t91 ≤ t103 then ((q_gtr M r0 5 1).bind (fun t112 => (q_gti M t112 4 1).bind (fun t115 => (q_ob M r0 5).bind (fun o120 => (f_Trip_legAt M r0 (t115 - (1 : Int32))).bind (fun t120 => (q_gti M t120 1 2).bind (fun t123 => (q_gtr M r0 5 1).bind (fun t127 => (q_gti M t127 4 2).bind (fun t130 => if t123 = t130 then ((q_gtr M r0 5 1).bind (fun t140 => (q_gti M t140 4 4).bind (fun t143 => (q_gtr M r0 5 1).bind (fun t147 => (q_gti M t147 4 3).bind (fun t150 => (q_gtr M r0 5 0).bind (fun t155 => (q_gtr M t155 3 3).bind (fun t158 => (q_ldi M t158 (7 : Int32)).bind (fun t163 => if (t143 - t150) ≤ t163 then (if x1 = (-1 : Int32) then (some (0 : Int32)) else ((q_gtr M r0 5 0).bind (fun t180 => (q_gtr M t180 3 2).bind (fun t183 => (q_ldr M t183 x1).bind (fun t187 => (q_gtr M r0 5 1).bind (fun t189 => (q_gtr M r0 5 0).bind (fun t193 => (q_gtr M t193 3 3).bind (fun t196 => (q_ldi M t196 (10 : Int32)).bind (fun t201 => (q_ob M t187 2).bind (fun o202 => (f_Member_leastOwnBroken M t187 t189 t201).bind (fun t202 => some t202))))))))))) else (some (9 : Int32)))))))))) else (some (8 : Int32)))))))))) else (some (7 : Int32))))))
def g_Trip_leastBroken : Nat → Nat → Nat → Int32 → am_M → Option (Int32)
  | 0, _, _, _, _ => none
  | F + 1, 0, r0, x1, M => a_Trip_leastBroken_0 (g_Trip_leastBroken F) r0 x1 M
  | _ + 1, _ + 1, _, _, _ => none
def e_Trip_leastBroken (rc : Nat → Nat → Int32 → am_M → Option (Int32)) (M : am_M) (a0 : Nat) (a1 : Int32) : Option (Int32) := (q_gtr M a0 5 1).bind (fun t1 => (q_gti M t1 4 1).bind (fun t4 => if t4 = 0 then (some (1 : Int32)) else ((q_gtr M a0 5 0).bind (fun t11 => (q_gtr M a0 5 1).bind (fun t16 => (q_gti M t16 4 2).bind (fun t19 => (q_ob M t11 3).bind (fun o22 => (f_Plan_isBase M t11 a1 t19).bind (fun t22 => if t22 = 0 then (some (1 : Int32)) else ((q_ob M a0 5).bind (fun o31 => (f_Trip_isLinked M a0).bind (fun t31 => if t31 = 0 then (some (2 : Int32)) else ((q_ob M a0 5).bind (fun o40 => (f_Trip_hasTooManyLegs M a0).bind (fun t40 => if t40 = 0 then ((q_ob M a0 5).bind (fun o49 => (f_Trip_hasTooLongDuty M a0).bind (fun t49 => if t49 = 0 then ((q_ob M a0 5).bind (fun o58 => (f_Trip_hasTooShortRest M a0).bind (fun t58 => if t58 = 0 then ((q_gtr M a0 5 0).bind (fun t67 => (q_gtr M t67 3 3).bind (fun t70 => (q_ldi M t70 (9 : Int32)).bind (fun t75 => if t75 = (1 : Int32) then ((q_ob M a0 5).bind (fun o81 => (f_Trip_lacksNightRest M a0).bind (fun t81 => if t81 = 0 then (rc 0 a0 a1 M) else (some (6 : Int32))))) else (rc 0 a0 a1 M))))) else (some (5 : Int32))))) else (some (4 : Int32))))) else (some (3 : Int32))))))))))))))))
def f_Trip_leastBroken (M : am_M) (a0 : Nat) (a1 : Int32) : Option (Int32) := e_Trip_leastBroken (g_Trip_leastBroken 1000000000) M a0 a1
theorem fl_Trip_121 : am_fl "CrewOffice$Trip" 121 1 2 := ⟨by decide, by decide, List.mem_of_getElem? (i := 139) (by decide +kernel)⟩
theorem fl_Trip_124 : am_fl "CrewOffice$Trip" 124 3 2 := ⟨by decide, by decide, List.mem_of_getElem? (i := 228) (by decide +kernel)⟩
theorem kV_Trip_101 : am_kV "CrewOffice$Trip" 101 3 y_Plan_isBase u_Plan_isBase 2 := ⟨List.mem_of_getElem? (i := 506) (by decide +kernel), ⟨List.mem_of_getElem? (i := 483) (by decide +kernel), List.mem_of_getElem? (i := 484) (by decide +kernel)⟩, List.mem_of_getElem? (i := 55) (by decide +kernel), w_Plan_isBase, ⟨⟨by decide +kernel, by decide +kernel⟩, by decide +kernel⟩⟩
theorem kV_Trip_105 : am_kV "CrewOffice$Trip" 105 5 y_Trip_isLinked u_Trip_isLinked 0 := ⟨List.mem_of_getElem? (i := 507) (by decide +kernel), ⟨List.mem_of_getElem? (i := 509) (by decide +kernel), List.mem_of_getElem? (i := 4) (by decide +kernel)⟩, List.mem_of_getElem? (i := 60) (by decide +kernel), w_Trip_isLinked, ⟨⟨by decide +kernel, by decide +kernel⟩, by decide +kernel⟩⟩
theorem kV_Trip_109 : am_kV "CrewOffice$Trip" 109 5 y_Trip_hasTooManyLegs u_Trip_hasTooManyLegs 0 := ⟨List.mem_of_getElem? (i := 512) (by decide +kernel), ⟨List.mem_of_getElem? (i := 514) (by decide +kernel), List.mem_of_getElem? (i := 5) (by decide +kernel)⟩, List.mem_of_getElem? (i := 60) (by decide +kernel), w_Trip_hasTooManyLegs, ⟨⟨by decide +kernel, by decide +kernel⟩, by decide +kernel⟩⟩
theorem kV_Trip_112 : am_kV "CrewOffice$Trip" 112 5 y_Trip_hasTooLongDuty u_Trip_hasTooLongDuty 0 := ⟨List.mem_of_getElem? (i := 520) (by decide +kernel), ⟨List.mem_of_getElem? (i := 522) (by decide +kernel), List.mem_of_getElem? (i := 7) (by decide +kernel)⟩, List.mem_of_getElem? (i := 60) (by decide +kernel), w_Trip_hasTooLongDuty, ⟨⟨by decide +kernel, by decide +kernel⟩, by decide +kernel⟩⟩
theorem kV_Trip_115 : am_kV "CrewOffice$Trip" 115 5 y_Trip_hasTooShortRest u_Trip_hasTooShortRest 0 := ⟨List.mem_of_getElem? (i := 546) (by decide +kernel), ⟨List.mem_of_getElem? (i := 548) (by decide +kernel), List.mem_of_getElem? (i := 10) (by decide +kernel)⟩, List.mem_of_getElem? (i := 60) (by decide +kernel), w_Trip_hasTooShortRest, ⟨⟨by decide +kernel, by decide +kernel⟩, by decide +kernel⟩⟩
theorem kV_Trip_118 : am_kV "CrewOffice$Trip" 118 5 y_Trip_lacksNightRest u_Trip_lacksNightRest 0 := ⟨List.mem_of_getElem? (i := 553) (by decide +kernel), ⟨List.mem_of_getElem? (i := 555) (by decide +kernel), List.mem_of_getElem? (i := 11) (by decide +kernel)⟩, List.mem_of_getElem? (i := 60) (by decide +kernel), w_Trip_lacksNightRest, ⟨⟨by decide +kernel, by decide +kernel⟩, by decide +kernel⟩⟩
theorem kV_Trip_128 : am_kV "CrewOffice$Trip" 128 2 y_Member_leastOwnBroken u_Member_leastOwnBroken 2 := ⟨List.mem_of_getElem? (i := 570) (by decide +kernel), ⟨List.mem_of_getElem? (i := 571) (by decide +kernel), List.mem_of_getElem? (i := 572) (by decide +kernel)⟩, List.mem_of_getElem? (i := 58) (by decide +kernel), w_Member_leastOwnBroken, ⟨⟨by decide +kernel, by decide +kernel⟩, by decide +kernel⟩⟩
set_option maxHeartbeats 4000000 in
theorem s_Trip_leastBroken_0 {rc : Nat → Nat → Int32 → am_M → Option (Int32)} {res : Int32} (ih_0 : ∀ (r0 : Nat) (x1 : Int32) (M : am_M), rc 0 r0 x1 M = some res → AW u_Trip_leastBroken R_Trip_leastBroken 0 0 90 [(0, .ref r0), (1, .int x1)] [] M (fun r M2 => r = .inl (some (.int res)) ∧ M2 = M)) : ∀ (r0 : Nat) (x1 : Int32) (M : am_M), a_Trip_leastBroken_0 rc r0 x1 M = some res → AW u_Trip_leastBroken R_Trip_leastBroken 0 0 90 [(0, .ref r0), (1, .int x1)] [] M (fun r M2 => r = .inl (some (.int res)) ∧ M2 = M) := by
  intro r0 x1 M h
  unfold a_Trip_leastBroken_0 at h
  refine aw_aload_n d_Trip_leastBroken_90 rfl rfl ?_
  obtain ⟨t91, e_t91, h⟩ := q_bind h
  refine aw_gti d_Trip_leastBroken_91 fl_Trip_51 (Or.inl rfl) e_t91 ?_
  refine aw_aload_n d_Trip_leastBroken_94 rfl rfl ?_
  obtain ⟨t95, e_t95, h⟩ := q_bind h
  refine aw_gtr d_Trip_leastBroken_95 fl_Trip_28 (Or.inl ⟨_, rfl⟩) e_t95 ?_
  obtain ⟨t98, e_t98, h⟩ := q_bind h
  refine aw_gtr d_Trip_leastBroken_98 fl_Trip_73 (Or.inr ⟨_, rfl⟩) e_t98 ?_
  refine aw_bipush (v := 6) d_Trip_leastBroken_101 (by decide) ?_
  obtain ⟨t103, e_t103, h⟩ := q_bind h
  refine aw_ldi d_Trip_leastBroken_103 e_t103 ?_
  refine aw_icmp_le (tgt := 110) d_Trip_leastBroken_104 (by decide) (fun hc => ?_) (fun hc => ?_)
  · rw [if_pos hc] at h
    refine aw_aload_n d_Trip_leastBroken_110 rfl rfl ?_
    refine aw_aload_n d_Trip_leastBroken_111 rfl rfl ?_
    obtain ⟨t112, e_t112, h⟩ := q_bind h
    refine aw_gtr d_Trip_leastBroken_112 fl_Trip_12 (Or.inl ⟨_, rfl⟩) e_t112 ?_
    obtain ⟨t115, e_t115, h⟩ := q_bind h
    refine aw_gti d_Trip_leastBroken_115 fl_Trip_35 (Or.inl rfl) e_t115 ?_
    refine aw_iconst (v := 1) d_Trip_leastBroken_118 (by decide) ?_
    refine aw_isub d_Trip_leastBroken_119 ?_
    obtain ⟨o120, e_o120, h⟩ := q_bind h
    obtain ⟨t120, e_t120, h⟩ := q_bind h
    refine aw_cV (v := (some (.ref t120))) (As := [.int (t115 - (1 : Int32))]) (rest := []) (st' := [.ref t120]) d_Trip_leastBroken_120 kV_Trip_63 (q_ob_spec e_o120).1 (q_ob_spec e_o120).2 ⟨Nat.le_of_ble_eq_true rfl, Nat.le_of_ble_eq_true rfl, Nat.le_of_ble_eq_true rfl, Nat.le_of_ble_eq_true rfl⟩ rfl rfl (Nat.le_of_ble_eq_true rfl) rfl (mt_Trip_legAt e_t120) ?_
    obtain ⟨t123, e_t123, h⟩ := q_bind h
    refine aw_gti d_Trip_leastBroken_123 fl_Trip_121 (Or.inl rfl) e_t123 ?_
    refine aw_aload_n d_Trip_leastBroken_126 rfl rfl ?_
    obtain ⟨t127, e_t127, h⟩ := q_bind h
    refine aw_gtr d_Trip_leastBroken_127 fl_Trip_12 (Or.inl ⟨_, rfl⟩) e_t127 ?_
    obtain ⟨t130, e_t130, h⟩ := q_bind h
    refine aw_gti d_Trip_leastBroken_130 fl_Trip_82 (Or.inl rfl) e_t130 ?_
    refine aw_icmp_eq (tgt := 139) d_Trip_leastBroken_133 (by decide) (fun hc => ?_) (fun hc => ?_)
    · rw [if_pos hc] at h
      refine aw_aload_n d_Trip_leastBroken_139 rfl rfl ?_
      obtain ⟨t140, e_t140, h⟩ := q_bind h
      refine aw_gtr d_Trip_leastBroken_140 fl_Trip_12 (Or.inl ⟨_, rfl⟩) e_t140 ?_
      obtain ⟨t143, e_t143, h⟩ := q_bind h
      refine aw_gti d_Trip_leastBroken_143 fl_Trip_88 (Or.inl rfl) e_t143 ?_
      refine aw_aload_n d_Trip_leastBroken_146 rfl rfl ?_
      obtain ⟨t147, e_t147, h⟩ := q_bind h
      refine aw_gtr d_Trip_leastBroken_147 fl_Trip_12 (Or.inl ⟨_, rfl⟩) e_t147 ?_
      obtain ⟨t150, e_t150, h⟩ := q_bind h
      refine aw_gti d_Trip_leastBroken_150 fl_Trip_85 (Or.inl rfl) e_t150 ?_
      refine aw_isub d_Trip_leastBroken_153 ?_
      refine aw_aload_n d_Trip_leastBroken_154 rfl rfl ?_
      obtain ⟨t155, e_t155, h⟩ := q_bind h
      refine aw_gtr d_Trip_leastBroken_155 fl_Trip_28 (Or.inl ⟨_, rfl⟩) e_t155 ?_
      obtain ⟨t158, e_t158, h⟩ := q_bind h
      refine aw_gtr d_Trip_leastBroken_158 fl_Trip_73 (Or.inr ⟨_, rfl⟩) e_t158 ?_
      refine aw_bipush (v := 7) d_Trip_leastBroken_161 (by decide) ?_
      obtain ⟨t163, e_t163, h⟩ := q_bind h
      refine aw_ldi d_Trip_leastBroken_163 e_t163 ?_
      refine aw_icmp_le (tgt := 170) d_Trip_leastBroken_164 (by decide) (fun hc => ?_) (fun hc => ?_)
      · rw [if_pos hc] at h
        refine aw_iload_n d_Trip_leastBroken_170 rfl rfl ?_
        refine aw_iconst (v := -1) d_Trip_leastBroken_171 (by decide) ?_
        refine aw_icmp_ne (tgt := 179) d_Trip_leastBroken_172 (by decide) (fun hc => ?_) (fun hc => ?_)
        · rw [if_neg hc] at h
          refine aw_aload_n d_Trip_leastBroken_179 rfl rfl ?_
          obtain ⟨t180, e_t180, h⟩ := q_bind h
          refine aw_gtr d_Trip_leastBroken_180 fl_Trip_28 (Or.inl ⟨_, rfl⟩) e_t180 ?_
          obtain ⟨t183, e_t183, h⟩ := q_bind h
          refine aw_gtr d_Trip_leastBroken_183 fl_Trip_124 (Or.inr ⟨_, rfl⟩) e_t183 ?_
          refine aw_iload_n d_Trip_leastBroken_186 rfl rfl ?_
          obtain ⟨t187, e_t187, h⟩ := q_bind h
          refine aw_ldr d_Trip_leastBroken_187 e_t187 ?_
          refine aw_aload_n d_Trip_leastBroken_188 rfl rfl ?_
          obtain ⟨t189, e_t189, h⟩ := q_bind h
          refine aw_gtr d_Trip_leastBroken_189 fl_Trip_12 (Or.inl ⟨_, rfl⟩) e_t189 ?_
          refine aw_aload_n d_Trip_leastBroken_192 rfl rfl ?_
          obtain ⟨t193, e_t193, h⟩ := q_bind h
          refine aw_gtr d_Trip_leastBroken_193 fl_Trip_28 (Or.inl ⟨_, rfl⟩) e_t193 ?_
          obtain ⟨t196, e_t196, h⟩ := q_bind h
          refine aw_gtr d_Trip_leastBroken_196 fl_Trip_73 (Or.inr ⟨_, rfl⟩) e_t196 ?_
          refine aw_bipush (v := 10) d_Trip_leastBroken_199 (by decide) ?_
          obtain ⟨t201, e_t201, h⟩ := q_bind h
          refine aw_ldi d_Trip_leastBroken_201 e_t201 ?_
          obtain ⟨o202, e_o202, h⟩ := q_bind h
          obtain ⟨t202, e_t202, h⟩ := q_bind h
          refine aw_cV (v := (some (.int t202))) (As := [.ref t189, .int t201]) (rest := []) (st' := [.int t202]) d_Trip_leastBroken_202 kV_Trip_128 (q_ob_spec e_o202).1 (q_ob_spec e_o202).2 ⟨Nat.le_of_ble_eq_true rfl, Nat.le_of_ble_eq_true rfl, Nat.le_of_ble_eq_true rfl, Nat.le_of_ble_eq_true rfl⟩ rfl rfl (Nat.le_of_ble_eq_true rfl) rfl (mt_Member_leastOwnBroken e_t202) ?_
          cases h
          exact aw_ireturn d_Trip_leastBroken_205 rfl (Nat.le_of_ble_eq_true rfl) (Nat.le_of_ble_eq_true rfl) ⟨rfl, rfl⟩
        · rw [if_pos hc] at h
          refine aw_iconst (v := 0) d_Trip_leastBroken_175 (by decide) ?_
          refine aw_goto (tgt := 205) d_Trip_leastBroken_176 (by decide) ?_
          cases h
          exact aw_ireturn d_Trip_leastBroken_205 rfl (Nat.le_of_ble_eq_true rfl) (Nat.le_of_ble_eq_true rfl) ⟨rfl, rfl⟩
      · rw [if_neg hc] at h
        refine aw_bipush (v := 9) d_Trip_leastBroken_167 (by decide) ?_
        cases h
        exact aw_ireturn d_Trip_leastBroken_169 rfl (Nat.le_of_ble_eq_true rfl) (Nat.le_of_ble_eq_true rfl) ⟨rfl, rfl⟩
    · rw [if_neg hc] at h
      refine aw_bipush (v := 8) d_Trip_leastBroken_136 (by decide) ?_
      cases h
      exact aw_ireturn d_Trip_leastBroken_138 rfl (Nat.le_of_ble_eq_true rfl) (Nat.le_of_ble_eq_true rfl) ⟨rfl, rfl⟩
  · rw [if_neg hc] at h
    refine aw_bipush (v := 7) d_Trip_leastBroken_107 (by decide) ?_
    cases h
    exact aw_ireturn d_Trip_leastBroken_109 rfl (Nat.le_of_ble_eq_true rfl) (Nat.le_of_ble_eq_true rfl) ⟨rfl, rfl⟩
theorem l_Trip_leastBroken {res : Int32} : ∀ F : Nat, (∀ (r0 : Nat) (x1 : Int32) (M : am_M), g_Trip_leastBroken F 0 r0 x1 M = some res → AW u_Trip_leastBroken R_Trip_leastBroken 0 0 90 [(0, .ref r0), (1, .int x1)] [] M (fun r M2 => r = .inl (some (.int res)) ∧ M2 = M)) := by
  intro F
  induction F with
  | zero => exact fun _ _ _  h => (by cases h)
  | succ F ih =>
    have ih0 := ih
    exact s_Trip_leastBroken_0 ih0
set_option maxHeartbeats 4000000 in
theorem mt_Trip_leastBroken {M : am_M} {a0 : Nat} {a1 : Int32} {res : Int32} (h : f_Trip_leastBroken M a0 a1 = some res) : AMet y_Trip_leastBroken u_Trip_leastBroken R_Trip_leastBroken [.ref a0, .int a1] M (fun r M2 => r = .inl (some (.int res)) ∧ M2 = M) := by
  refine am_met (by decide +kernel) w_Trip_leastBroken rfl rfl (Nat.le_of_ble_eq_true rfl) ?_
  show AW u_Trip_leastBroken R_Trip_leastBroken 0 0 0 [(0, .ref a0), (1, .int a1)] [] M (fun r M2 => r = .inl (some (.int res)) ∧ M2 = M)
  have ih_0 := (l_Trip_leastBroken (res := res) 1000000000)
  unfold f_Trip_leastBroken at h
  unfold e_Trip_leastBroken at h
  generalize g_Trip_leastBroken 1000000000 = rc at h ih_0
  refine aw_aload_n d_Trip_leastBroken_0 rfl rfl ?_
  obtain ⟨t1, e_t1, h⟩ := q_bind h
  refine aw_gtr d_Trip_leastBroken_1 fl_Trip_12 (Or.inl ⟨_, rfl⟩) e_t1 ?_
  obtain ⟨t4, e_t4, h⟩ := q_bind h
  refine aw_gti d_Trip_leastBroken_4 fl_Trip_35 (Or.inl rfl) e_t4 ?_
  refine aw_if_eq (tgt := 28) d_Trip_leastBroken_7 (by decide) (fun hc => ?_) (fun hc => ?_)
  · rw [if_pos hc] at h
    refine aw_iconst (v := 1) d_Trip_leastBroken_28 (by decide) ?_
    cases h
    exact aw_ireturn d_Trip_leastBroken_29 rfl (Nat.le_of_ble_eq_true rfl) (Nat.le_of_ble_eq_true rfl) ⟨rfl, rfl⟩
  · rw [if_neg hc] at h
    refine aw_aload_n d_Trip_leastBroken_10 rfl rfl ?_
    obtain ⟨t11, e_t11, h⟩ := q_bind h
    refine aw_gtr d_Trip_leastBroken_11 fl_Trip_28 (Or.inl ⟨_, rfl⟩) e_t11 ?_
    refine aw_iload_n d_Trip_leastBroken_14 rfl rfl ?_
    refine aw_aload_n d_Trip_leastBroken_15 rfl rfl ?_
    obtain ⟨t16, e_t16, h⟩ := q_bind h
    refine aw_gtr d_Trip_leastBroken_16 fl_Trip_12 (Or.inl ⟨_, rfl⟩) e_t16 ?_
    obtain ⟨t19, e_t19, h⟩ := q_bind h
    refine aw_gti d_Trip_leastBroken_19 fl_Trip_82 (Or.inl rfl) e_t19 ?_
    obtain ⟨o22, e_o22, h⟩ := q_bind h
    obtain ⟨t22, e_t22, h⟩ := q_bind h
    refine aw_cV (v := (some (.int t22))) (As := [.int a1, .int t19]) (rest := []) (st' := [.int t22]) d_Trip_leastBroken_22 kV_Trip_101 (q_ob_spec e_o22).1 (q_ob_spec e_o22).2 ⟨Nat.le_of_ble_eq_true rfl, Nat.le_of_ble_eq_true rfl, Nat.le_of_ble_eq_true rfl, Nat.le_of_ble_eq_true rfl⟩ rfl rfl (Nat.le_of_ble_eq_true rfl) rfl (mt_Plan_isBase e_t22) ?_
    refine aw_if_ne (tgt := 30) d_Trip_leastBroken_25 (by decide) (fun hc => ?_) (fun hc => ?_)
    · rw [if_neg hc] at h
      refine aw_aload_n d_Trip_leastBroken_30 rfl rfl ?_
      obtain ⟨o31, e_o31, h⟩ := q_bind h
      obtain ⟨t31, e_t31, h⟩ := q_bind h
      refine aw_cV (v := (some (.int t31))) (As := []) (rest := []) (st' := [.int t31]) d_Trip_leastBroken_31 kV_Trip_105 (q_ob_spec e_o31).1 (q_ob_spec e_o31).2 ⟨Nat.le_of_ble_eq_true rfl, Nat.le_of_ble_eq_true rfl, Nat.le_of_ble_eq_true rfl, Nat.le_of_ble_eq_true rfl⟩ rfl rfl (Nat.le_of_ble_eq_true rfl) rfl (mt_Trip_isLinked e_t31) ?_
      refine aw_if_ne (tgt := 39) d_Trip_leastBroken_34 (by decide) (fun hc => ?_) (fun hc => ?_)
      · rw [if_neg hc] at h
        refine aw_aload_n d_Trip_leastBroken_39 rfl rfl ?_
        obtain ⟨o40, e_o40, h⟩ := q_bind h
        obtain ⟨t40, e_t40, h⟩ := q_bind h
        refine aw_cV (v := (some (.int t40))) (As := []) (rest := []) (st' := [.int t40]) d_Trip_leastBroken_40 kV_Trip_109 (q_ob_spec e_o40).1 (q_ob_spec e_o40).2 ⟨Nat.le_of_ble_eq_true rfl, Nat.le_of_ble_eq_true rfl, Nat.le_of_ble_eq_true rfl, Nat.le_of_ble_eq_true rfl⟩ rfl rfl (Nat.le_of_ble_eq_true rfl) rfl (mt_Trip_hasTooManyLegs e_t40) ?_
        refine aw_if_eq (tgt := 48) d_Trip_leastBroken_43 (by decide) (fun hc => ?_) (fun hc => ?_)
        · rw [if_pos hc] at h
          refine aw_aload_n d_Trip_leastBroken_48 rfl rfl ?_
          obtain ⟨o49, e_o49, h⟩ := q_bind h
          obtain ⟨t49, e_t49, h⟩ := q_bind h
          refine aw_cV (v := (some (.int t49))) (As := []) (rest := []) (st' := [.int t49]) d_Trip_leastBroken_49 kV_Trip_112 (q_ob_spec e_o49).1 (q_ob_spec e_o49).2 ⟨Nat.le_of_ble_eq_true rfl, Nat.le_of_ble_eq_true rfl, Nat.le_of_ble_eq_true rfl, Nat.le_of_ble_eq_true rfl⟩ rfl rfl (Nat.le_of_ble_eq_true rfl) rfl (mt_Trip_hasTooLongDuty e_t49) ?_
          refine aw_if_eq (tgt := 57) d_Trip_leastBroken_52 (by decide) (fun hc => ?_) (fun hc => ?_)
          · rw [if_pos hc] at h
            refine aw_aload_n d_Trip_leastBroken_57 rfl rfl ?_
            obtain ⟨o58, e_o58, h⟩ := q_bind h
            obtain ⟨t58, e_t58, h⟩ := q_bind h
            refine aw_cV (v := (some (.int t58))) (As := []) (rest := []) (st' := [.int t58]) d_Trip_leastBroken_58 kV_Trip_115 (q_ob_spec e_o58).1 (q_ob_spec e_o58).2 ⟨Nat.le_of_ble_eq_true rfl, Nat.le_of_ble_eq_true rfl, Nat.le_of_ble_eq_true rfl, Nat.le_of_ble_eq_true rfl⟩ rfl rfl (Nat.le_of_ble_eq_true rfl) rfl (mt_Trip_hasTooShortRest e_t58) ?_
            refine aw_if_eq (tgt := 66) d_Trip_leastBroken_61 (by decide) (fun hc => ?_) (fun hc => ?_)
            · rw [if_pos hc] at h
              refine aw_aload_n d_Trip_leastBroken_66 rfl rfl ?_
              obtain ⟨t67, e_t67, h⟩ := q_bind h
              refine aw_gtr d_Trip_leastBroken_67 fl_Trip_28 (Or.inl ⟨_, rfl⟩) e_t67 ?_
              obtain ⟨t70, e_t70, h⟩ := q_bind h
              refine aw_gtr d_Trip_leastBroken_70 fl_Trip_73 (Or.inr ⟨_, rfl⟩) e_t70 ?_
              refine aw_bipush (v := 9) d_Trip_leastBroken_73 (by decide) ?_
              obtain ⟨t75, e_t75, h⟩ := q_bind h
              refine aw_ldi d_Trip_leastBroken_75 e_t75 ?_
              refine aw_iconst (v := 1) d_Trip_leastBroken_76 (by decide) ?_
              refine aw_icmp_ne (tgt := 90) d_Trip_leastBroken_77 (by decide) (fun hc => ?_) (fun hc => ?_)
              · rw [if_neg hc] at h
                exact aw_pick [0, 1] rfl (ih_0 _ _ _ h)
              · rw [if_pos hc] at h
                refine aw_aload_n d_Trip_leastBroken_80 rfl rfl ?_
                obtain ⟨o81, e_o81, h⟩ := q_bind h
                obtain ⟨t81, e_t81, h⟩ := q_bind h
                refine aw_cV (v := (some (.int t81))) (As := []) (rest := []) (st' := [.int t81]) d_Trip_leastBroken_81 kV_Trip_118 (q_ob_spec e_o81).1 (q_ob_spec e_o81).2 ⟨Nat.le_of_ble_eq_true rfl, Nat.le_of_ble_eq_true rfl, Nat.le_of_ble_eq_true rfl, Nat.le_of_ble_eq_true rfl⟩ rfl rfl (Nat.le_of_ble_eq_true rfl) rfl (mt_Trip_lacksNightRest e_t81) ?_
                refine aw_if_eq (tgt := 90) d_Trip_leastBroken_84 (by decide) (fun hc => ?_) (fun hc => ?_)
                · rw [if_pos hc] at h
                  exact aw_pick [0, 1] rfl (ih_0 _ _ _ h)
                · rw [if_neg hc] at h
                  refine aw_bipush (v := 6) d_Trip_leastBroken_87 (by decide) ?_
                  cases h
                  exact aw_ireturn d_Trip_leastBroken_89 rfl (Nat.le_of_ble_eq_true rfl) (Nat.le_of_ble_eq_true rfl) ⟨rfl, rfl⟩
            · rw [if_neg hc] at h
              refine aw_iconst (v := 5) d_Trip_leastBroken_64 (by decide) ?_
              cases h
              exact aw_ireturn d_Trip_leastBroken_65 rfl (Nat.le_of_ble_eq_true rfl) (Nat.le_of_ble_eq_true rfl) ⟨rfl, rfl⟩
          · rw [if_neg hc] at h
            refine aw_iconst (v := 4) d_Trip_leastBroken_55 (by decide) ?_
            cases h
            exact aw_ireturn d_Trip_leastBroken_56 rfl (Nat.le_of_ble_eq_true rfl) (Nat.le_of_ble_eq_true rfl) ⟨rfl, rfl⟩
        · rw [if_neg hc] at h
          refine aw_iconst (v := 3) d_Trip_leastBroken_46 (by decide) ?_
          cases h
          exact aw_ireturn d_Trip_leastBroken_47 rfl (Nat.le_of_ble_eq_true rfl) (Nat.le_of_ble_eq_true rfl) ⟨rfl, rfl⟩
      · rw [if_pos hc] at h
        refine aw_iconst (v := 2) d_Trip_leastBroken_37 (by decide) ?_
        cases h
        exact aw_ireturn d_Trip_leastBroken_38 rfl (Nat.le_of_ble_eq_true rfl) (Nat.le_of_ble_eq_true rfl) ⟨rfl, rfl⟩
    · rw [if_pos hc] at h
      refine aw_iconst (v := 1) d_Trip_leastBroken_28 (by decide) ?_
      cases h
      exact aw_ireturn d_Trip_leastBroken_29 rfl (Nat.le_of_ble_eq_true rfl) (Nat.le_of_ble_eq_true rfl) ⟨rfl, rfl⟩
