-- Trip_hasTooShortRest Office_span Office_pairing Office_cover Office_covers Office_bid Office_owner Office_look Office_forgetPairings Model_loses Model_zone
def y_Trip_hasTooShortRest : MethodName := ⟨"CrewOffice$Trip", "hasTooShortRest", "()Z"⟩
def u_Trip_hasTooShortRest : am_U := ("CrewOffice$Trip", "hasTooShortRest", prog_9_method_14_code, 3, (some .boolean), [])
def R_Trip_hasTooShortRest : Room := { frames := 1, cells := 0, slots := 0, locals := 21 }
theorem d_Trip_hasTooShortRest_0 : decode u_Trip_hasTooShortRest.2.2.1 0 = .ok (.iconst 1, 1) := by decide +kernel
theorem d_Trip_hasTooShortRest_1 : decode u_Trip_hasTooShortRest.2.2.1 1 = .ok (.istore_n 1, 1) := by decide +kernel
theorem d_Trip_hasTooShortRest_2 : decode u_Trip_hasTooShortRest.2.2.1 2 = .ok (.iload_n 1, 1) := by decide +kernel
theorem d_Trip_hasTooShortRest_3 : decode u_Trip_hasTooShortRest.2.2.1 3 = .ok (.aload_n 0, 1) := by decide +kernel
theorem d_Trip_hasTooShortRest_4 : decode u_Trip_hasTooShortRest.2.2.1 4 = .ok (.getfield 51, 3) := by decide +kernel
theorem d_Trip_hasTooShortRest_7 : decode u_Trip_hasTooShortRest.2.2.1 7 = .ok (.if_icmp .ge 50, 3) := by decide +kernel
theorem d_Trip_hasTooShortRest_10 : decode u_Trip_hasTooShortRest.2.2.1 10 = .ok (.aload_n 0, 1) := by decide +kernel
theorem d_Trip_hasTooShortRest_11 : decode u_Trip_hasTooShortRest.2.2.1 11 = .ok (.getfield 28, 3) := by decide +kernel
theorem d_Trip_hasTooShortRest_14 : decode u_Trip_hasTooShortRest.2.2.1 14 = .ok (.getfield 73, 3) := by decide +kernel
theorem d_Trip_hasTooShortRest_17 : decode u_Trip_hasTooShortRest.2.2.1 17 = .ok (.iconst 4, 1) := by decide +kernel
theorem d_Trip_hasTooShortRest_18 : decode u_Trip_hasTooShortRest.2.2.1 18 = .ok (.iaload, 1) := by decide +kernel
theorem d_Trip_hasTooShortRest_19 : decode u_Trip_hasTooShortRest.2.2.1 19 = .ok (.aload_n 0, 1) := by decide +kernel
theorem d_Trip_hasTooShortRest_20 : decode u_Trip_hasTooShortRest.2.2.1 20 = .ok (.iload_n 1, 1) := by decide +kernel
theorem d_Trip_hasTooShortRest_21 : decode u_Trip_hasTooShortRest.2.2.1 21 = .ok (.iconst 1, 1) := by decide +kernel
theorem d_Trip_hasTooShortRest_22 : decode u_Trip_hasTooShortRest.2.2.1 22 = .ok (.isub, 1) := by decide +kernel
theorem d_Trip_hasTooShortRest_23 : decode u_Trip_hasTooShortRest.2.2.1 23 = .ok (.invokevirtual 91, 3) := by decide +kernel
theorem d_Trip_hasTooShortRest_26 : decode u_Trip_hasTooShortRest.2.2.1 26 = .ok (.invokestatic 95, 3) := by decide +kernel
theorem d_Trip_hasTooShortRest_29 : decode u_Trip_hasTooShortRest.2.2.1 29 = .ok (.istore_n 2, 1) := by decide +kernel
theorem d_Trip_hasTooShortRest_30 : decode u_Trip_hasTooShortRest.2.2.1 30 = .ok (.aload_n 0, 1) := by decide +kernel
theorem d_Trip_hasTooShortRest_31 : decode u_Trip_hasTooShortRest.2.2.1 31 = .ok (.getfield 22, 3) := by decide +kernel
theorem d_Trip_hasTooShortRest_34 : decode u_Trip_hasTooShortRest.2.2.1 34 = .ok (.iload_n 1, 1) := by decide +kernel
theorem d_Trip_hasTooShortRest_35 : decode u_Trip_hasTooShortRest.2.2.1 35 = .ok (.iaload, 1) := by decide +kernel
theorem d_Trip_hasTooShortRest_36 : decode u_Trip_hasTooShortRest.2.2.1 36 = .ok (.aload_n 0, 1) := by decide +kernel
theorem d_Trip_hasTooShortRest_37 : decode u_Trip_hasTooShortRest.2.2.1 37 = .ok (.getfield 25, 3) := by decide +kernel
theorem d_Trip_hasTooShortRest_40 : decode u_Trip_hasTooShortRest.2.2.1 40 = .ok (.iload_n 1, 1) := by decide +kernel
theorem d_Trip_hasTooShortRest_41 : decode u_Trip_hasTooShortRest.2.2.1 41 = .ok (.iconst 1, 1) := by decide +kernel
theorem d_Trip_hasTooShortRest_42 : decode u_Trip_hasTooShortRest.2.2.1 42 = .ok (.isub, 1) := by decide +kernel
theorem d_Trip_hasTooShortRest_43 : decode u_Trip_hasTooShortRest.2.2.1 43 = .ok (.iaload, 1) := by decide +kernel
theorem d_Trip_hasTooShortRest_44 : decode u_Trip_hasTooShortRest.2.2.1 44 = .ok (.isub, 1) := by decide +kernel
theorem d_Trip_hasTooShortRest_45 : decode u_Trip_hasTooShortRest.2.2.1 45 = .ok (.iload_n 2, 1) := by decide +kernel
theorem d_Trip_hasTooShortRest_46 : decode u_Trip_hasTooShortRest.2.2.1 46 = .ok (.if_icmp .ge 5, 3) := by decide +kernel
theorem d_Trip_hasTooShortRest_49 : decode u_Trip_hasTooShortRest.2.2.1 49 = .ok (.iconst 1, 1) := by decide +kernel
theorem d_Trip_hasTooShortRest_50 : decode u_Trip_hasTooShortRest.2.2.1 50 = .ok (.ireturn, 1) := by decide +kernel
theorem d_Trip_hasTooShortRest_51 : decode u_Trip_hasTooShortRest.2.2.1 51 = .ok (.iinc 1 1, 3) := by decide +kernel
theorem d_Trip_hasTooShortRest_54 : decode u_Trip_hasTooShortRest.2.2.1 54 = .ok (.goto (-52), 3) := by decide +kernel
theorem d_Trip_hasTooShortRest_57 : decode u_Trip_hasTooShortRest.2.2.1 57 = .ok (.iconst 0, 1) := by decide +kernel
theorem d_Trip_hasTooShortRest_58 : decode u_Trip_hasTooShortRest.2.2.1 58 = .ok (.ireturn, 1) := by decide +kernel
theorem w_Trip_hasTooShortRest : am_code y_Trip_hasTooShortRest u_Trip_hasTooShortRest ∈ am_ws := am_mem (List.mem_of_getElem? (i := 549) (by decide +kernel)) rfl
def a_Trip_hasTooShortRest_0 (rc : Nat → Nat → Int32 → am_M → Option (Int32)) (r0 : Nat) (x1 : Int32) (M : am_M) : Option (Int32) := (q_gti M r0 5 2).bind (fun t4 => if t4 ≤ x1 then (some (0 : Int32)) else ((q_gtr M r0 5 0).bind (fun t11 => (q_gtr M t11 3 3).bind (fun t14 => (q_ldi M t14 (4 : Int32)).bind (fun t18 => (q_ob M r0 5).bind (fun o23 => (f_Trip_lengthOf M r0 (x1 - (1 : Int32))).bind (fun t23 => (f_Math_max M t18 t23).bind (fun t26 => (q_gtr M r0 5 4).bind (fun t31 => (q_ldi M t31 x1).bind (fun t35 => (q_gtr M r0 5 5).bind (fun t37 => (q_ldi M t37 (x1 - (1 : Int32))).bind (fun t43 => if t26 ≤ (t35 - t43) then (rc 0 r0 (x1 + (1 : Int32)) M) else (some (1 : Int32))))))))))))))
def g_Trip_hasTooShortRest : Nat → Nat → Nat → Int32 → am_M → Option (Int32)
  | 0, _, _, _, _ => none
  | F + 1, 0, r0, x1, M => a_Trip_hasTooShortRest_0 (g_Trip_hasTooShortRest F) r0 x1 M
  | _ + 1, _ + 1, _, _, _ => none
def e_Trip_hasTooShortRest (rc : Nat → Nat → Int32 → am_M → Option (Int32)) (M : am_M) (a0 : Nat) : Option (Int32) := rc 0 a0 (1 : Int32) M
def f_Trip_hasTooShortRest (M : am_M) (a0 : Nat) : Option (Int32) := e_Trip_hasTooShortRest (g_Trip_hasTooShortRest 1000000000) M a0
set_option maxHeartbeats 4000000 in
theorem s_Trip_hasTooShortRest_0 {rc : Nat → Nat → Int32 → am_M → Option (Int32)} {res : Int32} (ih_0 : ∀ (r0 : Nat) (x1 : Int32) (M : am_M), rc 0 r0 x1 M = some res → AW u_Trip_hasTooShortRest R_Trip_hasTooShortRest 0 0 2 [(0, .ref r0), (1, .int x1)] [] M (fun r M2 => r = .inl (some (.int res)) ∧ M2 = M)) : ∀ (r0 : Nat) (x1 : Int32) (M : am_M), a_Trip_hasTooShortRest_0 rc r0 x1 M = some res → AW u_Trip_hasTooShortRest R_Trip_hasTooShortRest 0 0 2 [(0, .ref r0), (1, .int x1)] [] M (fun r M2 => r = .inl (some (.int res)) ∧ M2 = M) := by
  intro r0 x1 M h
  unfold a_Trip_hasTooShortRest_0 at h
  refine aw_iload_n d_Trip_hasTooShortRest_2 rfl rfl ?_
  refine aw_aload_n d_Trip_hasTooShortRest_3 rfl rfl ?_
  obtain ⟨t4, e_t4, h⟩ := q_bind h
  refine aw_gti d_Trip_hasTooShortRest_4 fl_Trip_51 (Or.inl rfl) e_t4 ?_
  refine aw_icmp_ge (tgt := 57) d_Trip_hasTooShortRest_7 (by decide) (fun hc => ?_) (fun hc => ?_)
  · rw [if_pos hc] at h
    refine aw_iconst (v := 0) d_Trip_hasTooShortRest_57 (by decide) ?_
    cases h
    exact aw_zreturn d_Trip_hasTooShortRest_58 rfl (by decide) (Nat.le_of_ble_eq_true rfl) (Nat.le_of_ble_eq_true rfl) ⟨rfl, rfl⟩
  · rw [if_neg hc] at h
    refine aw_aload_n d_Trip_hasTooShortRest_10 rfl rfl ?_
    obtain ⟨t11, e_t11, h⟩ := q_bind h
    refine aw_gtr d_Trip_hasTooShortRest_11 fl_Trip_28 (Or.inl ⟨_, rfl⟩) e_t11 ?_
    obtain ⟨t14, e_t14, h⟩ := q_bind h
    refine aw_gtr d_Trip_hasTooShortRest_14 fl_Trip_73 (Or.inr ⟨_, rfl⟩) e_t14 ?_
    refine aw_iconst (v := 4) d_Trip_hasTooShortRest_17 (by decide) ?_
    obtain ⟨t18, e_t18, h⟩ := q_bind h
    refine aw_ldi d_Trip_hasTooShortRest_18 e_t18 ?_
    refine aw_aload_n d_Trip_hasTooShortRest_19 rfl rfl ?_
    refine aw_iload_n d_Trip_hasTooShortRest_20 rfl rfl ?_
    refine aw_iconst (v := 1) d_Trip_hasTooShortRest_21 (by decide) ?_
    refine aw_isub d_Trip_hasTooShortRest_22 ?_
    obtain ⟨o23, e_o23, h⟩ := q_bind h
    obtain ⟨t23, e_t23, h⟩ := q_bind h
    refine aw_cV (v := (some (.int t23))) (As := [.int (x1 - (1 : Int32))]) (rest := [.int t18]) (st' := [.int t23, .int t18]) d_Trip_hasTooShortRest_23 kV_Trip_91 (q_ob_spec e_o23).1 (q_ob_spec e_o23).2 ⟨Nat.le_of_ble_eq_true rfl, Nat.le_of_ble_eq_true rfl, Nat.le_of_ble_eq_true rfl, Nat.le_of_ble_eq_true rfl⟩ rfl rfl (Nat.le_of_ble_eq_true rfl) rfl (mt_Trip_lengthOf e_t23) ?_
    obtain ⟨t26, e_t26, h⟩ := q_bind h
    refine aw_cS (v := (some (.int t26))) (As := [.int t18, .int t23]) (rest := []) (st' := [.int t26]) d_Trip_hasTooShortRest_26 kS_Trip_95 ⟨Nat.le_of_ble_eq_true rfl, Nat.le_of_ble_eq_true rfl, Nat.le_of_ble_eq_true rfl, Nat.le_of_ble_eq_true rfl⟩ rfl rfl (Nat.le_of_ble_eq_true rfl) rfl (mt_Math_max e_t26) ?_
    refine aw_istore_n (ls' := [(2, .int _), (0, .ref _), (1, .int _)]) d_Trip_hasTooShortRest_29 rfl (Nat.le_of_ble_eq_true rfl) rfl ?_
    refine aw_aload_n d_Trip_hasTooShortRest_30 rfl rfl ?_
    obtain ⟨t31, e_t31, h⟩ := q_bind h
    refine aw_gtr d_Trip_hasTooShortRest_31 fl_Trip_22 (Or.inr ⟨_, rfl⟩) e_t31 ?_
    refine aw_iload_n d_Trip_hasTooShortRest_34 rfl rfl ?_
    obtain ⟨t35, e_t35, h⟩ := q_bind h
    refine aw_ldi d_Trip_hasTooShortRest_35 e_t35 ?_
    refine aw_aload_n d_Trip_hasTooShortRest_36 rfl rfl ?_
    obtain ⟨t37, e_t37, h⟩ := q_bind h
    refine aw_gtr d_Trip_hasTooShortRest_37 fl_Trip_25 (Or.inr ⟨_, rfl⟩) e_t37 ?_
    refine aw_iload_n d_Trip_hasTooShortRest_40 rfl rfl ?_
    refine aw_iconst (v := 1) d_Trip_hasTooShortRest_41 (by decide) ?_
    refine aw_isub d_Trip_hasTooShortRest_42 ?_
    obtain ⟨t43, e_t43, h⟩ := q_bind h
    refine aw_ldi d_Trip_hasTooShortRest_43 e_t43 ?_
    refine aw_isub d_Trip_hasTooShortRest_44 ?_
    refine aw_iload_n d_Trip_hasTooShortRest_45 rfl rfl ?_
    refine aw_icmp_ge (tgt := 51) d_Trip_hasTooShortRest_46 (by decide) (fun hc => ?_) (fun hc => ?_)
    · rw [if_pos hc] at h
      refine aw_iinc (v := (x1 + (1 : Int32))) (ls' := [(1, .int _), (2, .int _), (0, .ref _)]) d_Trip_hasTooShortRest_51 rfl rfl (Nat.le_of_ble_eq_true rfl) rfl ?_
      refine aw_goto (tgt := 2) d_Trip_hasTooShortRest_54 (by decide) ?_
      exact aw_pick [2, 0] rfl (ih_0 _ _ _ h)
    · rw [if_neg hc] at h
      refine aw_iconst (v := 1) d_Trip_hasTooShortRest_49 (by decide) ?_
      cases h
      exact aw_zreturn d_Trip_hasTooShortRest_50 rfl (by decide) (Nat.le_of_ble_eq_true rfl) (Nat.le_of_ble_eq_true rfl) ⟨rfl, rfl⟩
theorem l_Trip_hasTooShortRest {res : Int32} : ∀ F : Nat, (∀ (r0 : Nat) (x1 : Int32) (M : am_M), g_Trip_hasTooShortRest F 0 r0 x1 M = some res → AW u_Trip_hasTooShortRest R_Trip_hasTooShortRest 0 0 2 [(0, .ref r0), (1, .int x1)] [] M (fun r M2 => r = .inl (some (.int res)) ∧ M2 = M)) := by
  intro F
  induction F with
  | zero => exact fun _ _ _  h => (by cases h)
  | succ F ih =>
    have ih0 := ih
    exact s_Trip_hasTooShortRest_0 ih0
set_option maxHeartbeats 4000000 in
theorem mt_Trip_hasTooShortRest {M : am_M} {a0 : Nat} {res : Int32} (h : f_Trip_hasTooShortRest M a0 = some res) : AMet y_Trip_hasTooShortRest u_Trip_hasTooShortRest R_Trip_hasTooShortRest [.ref a0] M (fun r M2 => r = .inl (some (.int res)) ∧ M2 = M) := by
  refine am_met (by decide +kernel) w_Trip_hasTooShortRest rfl rfl (Nat.le_of_ble_eq_true rfl) ?_
  show AW u_Trip_hasTooShortRest R_Trip_hasTooShortRest 0 0 0 [(0, .ref a0)] [] M (fun r M2 => r = .inl (some (.int res)) ∧ M2 = M)
  have ih_0 := (l_Trip_hasTooShortRest (res := res) 1000000000)
  unfold f_Trip_hasTooShortRest at h
  unfold e_Trip_hasTooShortRest at h
  generalize g_Trip_hasTooShortRest 1000000000 = rc at h ih_0
  refine aw_iconst (v := 1) d_Trip_hasTooShortRest_0 (by decide) ?_
  refine aw_istore_n (ls' := [(1, .int _), (0, .ref _)]) d_Trip_hasTooShortRest_1 rfl (Nat.le_of_ble_eq_true rfl) rfl ?_
  exact aw_pick [1, 0] rfl (ih_0 _ _ _ h)
def y_Office_span : MethodName := ⟨"CrewOffice", "span", "(I)I"⟩
def u_Office_span : am_U := ("CrewOffice", "span", prog_1_method_13_code, 2, (some .int), [])
def R_Office_span : Room := { frames := 9, cells := 2, slots := 12, locals := 220 }
theorem d_Office_span_0 : decode u_Office_span.2.2.1 0 = .ok (.iload_n 1, 1) := by decide +kernel
theorem d_Office_span_1 : decode u_Office_span.2.2.1 1 = .ok (.iconst 0, 1) := by decide +kernel
theorem d_Office_span_2 : decode u_Office_span.2.2.1 2 = .ok (.iconst 4, 1) := by decide +kernel
theorem d_Office_span_3 : decode u_Office_span.2.2.1 3 = .ok (.invokestatic 50, 3) := by decide +kernel
theorem d_Office_span_6 : decode u_Office_span.2.2.1 6 = .ok (.invokestatic 54, 3) := by decide +kernel
theorem d_Office_span_9 : decode u_Office_span.2.2.1 9 = .ok (.aload_n 0, 1) := by decide +kernel
theorem d_Office_span_10 : decode u_Office_span.2.2.1 10 = .ok (.getfield 21, 3) := by decide +kernel
theorem d_Office_span_13 : decode u_Office_span.2.2.1 13 = .ok (.invokevirtual 138, 3) := by decide +kernel
theorem d_Office_span_16 : decode u_Office_span.2.2.1 16 = .ok (.invokestatic 112, 3) := by decide +kernel
theorem d_Office_span_19 : decode u_Office_span.2.2.1 19 = .ok (.aload_n 0, 1) := by decide +kernel
theorem d_Office_span_20 : decode u_Office_span.2.2.1 20 = .ok (.getfield 21, 3) := by decide +kernel
theorem d_Office_span_23 : decode u_Office_span.2.2.1 23 = .ok (.invokevirtual 142, 3) := by decide +kernel
theorem d_Office_span_26 : decode u_Office_span.2.2.1 26 = .ok (.iload_n 1, 1) := by decide +kernel
theorem d_Office_span_27 : decode u_Office_span.2.2.1 27 = .ok (.tableswitch 70 0 3 #[29, 40, 51, 59], 29) := by decide +kernel
theorem d_Office_span_56 : decode u_Office_span.2.2.1 56 = .ok (.aload_n 0, 1) := by decide +kernel
theorem d_Office_span_57 : decode u_Office_span.2.2.1 57 = .ok (.getfield 21, 3) := by decide +kernel
theorem d_Office_span_60 : decode u_Office_span.2.2.1 60 = .ok (.getfield 122, 3) := by decide +kernel
theorem d_Office_span_63 : decode u_Office_span.2.2.1 63 = .ok (.getfield 149, 3) := by decide +kernel
theorem d_Office_span_66 : decode u_Office_span.2.2.1 66 = .ok (.ireturn, 1) := by decide +kernel
theorem d_Office_span_67 : decode u_Office_span.2.2.1 67 = .ok (.aload_n 0, 1) := by decide +kernel
theorem d_Office_span_68 : decode u_Office_span.2.2.1 68 = .ok (.getfield 21, 3) := by decide +kernel
theorem d_Office_span_71 : decode u_Office_span.2.2.1 71 = .ok (.getfield 122, 3) := by decide +kernel
theorem d_Office_span_74 : decode u_Office_span.2.2.1 74 = .ok (.getfield 152, 3) := by decide +kernel
theorem d_Office_span_77 : decode u_Office_span.2.2.1 77 = .ok (.ireturn, 1) := by decide +kernel
theorem d_Office_span_78 : decode u_Office_span.2.2.1 78 = .ok (.aload_n 0, 1) := by decide +kernel
theorem d_Office_span_79 : decode u_Office_span.2.2.1 79 = .ok (.getfield 21, 3) := by decide +kernel
theorem d_Office_span_82 : decode u_Office_span.2.2.1 82 = .ok (.getfield 155, 3) := by decide +kernel
theorem d_Office_span_85 : decode u_Office_span.2.2.1 85 = .ok (.ireturn, 1) := by decide +kernel
theorem d_Office_span_86 : decode u_Office_span.2.2.1 86 = .ok (.aload_n 0, 1) := by decide +kernel
theorem d_Office_span_87 : decode u_Office_span.2.2.1 87 = .ok (.getfield 21, 3) := by decide +kernel
theorem d_Office_span_90 : decode u_Office_span.2.2.1 90 = .ok (.getfield 122, 3) := by decide +kernel
theorem d_Office_span_93 : decode u_Office_span.2.2.1 93 = .ok (.getfield 158, 3) := by decide +kernel
theorem d_Office_span_96 : decode u_Office_span.2.2.1 96 = .ok (.ireturn, 1) := by decide +kernel
theorem d_Office_span_97 : decode u_Office_span.2.2.1 97 = .ok (.aload_n 0, 1) := by decide +kernel
theorem d_Office_span_98 : decode u_Office_span.2.2.1 98 = .ok (.getfield 21, 3) := by decide +kernel
theorem d_Office_span_101 : decode u_Office_span.2.2.1 101 = .ok (.invokevirtual 161, 3) := by decide +kernel
theorem d_Office_span_104 : decode u_Office_span.2.2.1 104 = .ok (.ireturn, 1) := by decide +kernel
theorem w_Office_span : am_code y_Office_span u_Office_span ∈ am_ws := am_mem (List.mem_of_getElem? (i := 845) (by decide +kernel)) rfl
def e_Office_span (M : am_M) (a0 : Nat) (a1 : Int32) : Option ((Int32 ⊕ Nat) × am_M) := (f_Office_isWithin M a1 (0 : Int32) (4 : Int32)).bind (fun t3 => (f_Office_needArgument M t3).bind (fun p6 => q_try p6 (fun _ M6 => (q_gtr M6 a0 9 1).bind (fun t10 => (q_ob M6 t10 5).bind (fun o13 => (f_Trip_canBeMeasured M6 t10).bind (fun t13 => (f_Office_needElement M6 t13).bind (fun p16 => q_try p16 (fun _ M16 => (q_gtr M16 a0 9 1).bind (fun t20 => (q_ob M16 t20 5).bind (fun o23 => (f_Trip_measure M16 t20).bind (fun p23 => if a1 = (0 : Int32) then ((q_gtr p23.2 a0 9 1).bind (fun t57 => (q_gtr p23.2 t57 5 1).bind (fun t60 => (q_gti p23.2 t60 4 3).bind (fun t63 => some (.inl t63, p23.2))))) else if a1 = (1 : Int32) then ((q_gtr p23.2 a0 9 1).bind (fun t68 => (q_gtr p23.2 t68 5 1).bind (fun t71 => (q_gti p23.2 t71 4 4).bind (fun t74 => some (.inl t74, p23.2))))) else if a1 = (2 : Int32) then ((q_gtr p23.2 a0 9 1).bind (fun t79 => (q_gti p23.2 t79 5 2).bind (fun t82 => some (.inl t82, p23.2)))) else if a1 = (3 : Int32) then ((q_gtr p23.2 a0 9 1).bind (fun t87 => (q_gtr p23.2 t87 5 1).bind (fun t90 => (q_gti p23.2 t90 4 5).bind (fun t93 => some (.inl t93, p23.2))))) else ((q_gtr p23.2 a0 9 1).bind (fun t98 => (q_ob p23.2 t98 5).bind (fun o101 => (f_Trip_longestDuty p23.2 t98).bind (fun t101 => some (.inl t101, p23.2))))))))))))))))
def f_Office_span (M : am_M) (a0 : Nat) (a1 : Int32) : Option ((Int32 ⊕ Nat) × am_M) := e_Office_span M a0 a1
theorem fl_Office_149 : am_fl "CrewOffice" 149 4 3 := ⟨by decide, by decide, List.mem_of_getElem? (i := 276) (by decide +kernel)⟩
theorem fl_Office_152 : am_fl "CrewOffice" 152 4 4 := ⟨by decide, by decide, List.mem_of_getElem? (i := 282) (by decide +kernel)⟩
theorem fl_Office_155 : am_fl "CrewOffice" 155 5 2 := ⟨by decide, by decide, List.mem_of_getElem? (i := 316) (by decide +kernel)⟩
theorem fl_Office_158 : am_fl "CrewOffice" 158 4 5 := ⟨by decide, by decide, List.mem_of_getElem? (i := 287) (by decide +kernel)⟩
theorem kS_Office_112 : am_kS "CrewOffice" 112 y_Office_needElement u_Office_needElement 1 := ⟨List.mem_of_getElem? (i := 779) (by decide +kernel), List.mem_of_getElem? (i := 780) (by decide +kernel), List.mem_of_getElem? (i := 54) (by decide +kernel), w_Office_needElement, ⟨⟨by decide +kernel, by decide +kernel⟩, by decide +kernel⟩⟩
theorem kV_Office_138 : am_kV "CrewOffice" 138 5 y_Trip_canBeMeasured u_Trip_canBeMeasured 0 := ⟨List.mem_of_getElem? (i := 833) (by decide +kernel), ⟨List.mem_of_getElem? (i := 834) (by decide +kernel), List.mem_of_getElem? (i := 835) (by decide +kernel)⟩, List.mem_of_getElem? (i := 60) (by decide +kernel), w_Trip_canBeMeasured, ⟨⟨by decide +kernel, by decide +kernel⟩, by decide +kernel⟩⟩
theorem kV_Office_142 : am_kV "CrewOffice" 142 5 y_Trip_measure u_Trip_measure 0 := ⟨List.mem_of_getElem? (i := 837) (by decide +kernel), ⟨List.mem_of_getElem? (i := 495) (by decide +kernel), List.mem_of_getElem? (i := 496) (by decide +kernel)⟩, List.mem_of_getElem? (i := 60) (by decide +kernel), w_Trip_measure, ⟨⟨by decide +kernel, by decide +kernel⟩, by decide +kernel⟩⟩
theorem kV_Office_161 : am_kV "CrewOffice" 161 5 y_Trip_longestDuty u_Trip_longestDuty 0 := ⟨List.mem_of_getElem? (i := 846) (by decide +kernel), ⟨List.mem_of_getElem? (i := 847) (by decide +kernel), List.mem_of_getElem? (i := 848) (by decide +kernel)⟩, List.mem_of_getElem? (i := 60) (by decide +kernel), w_Trip_longestDuty, ⟨⟨by decide +kernel, by decide +kernel⟩, by decide +kernel⟩⟩
set_option maxHeartbeats 4000000 in
theorem mt_Office_span {M : am_M} {a0 : Nat} {a1 : Int32} {res : Int32 ⊕ Nat} {M' : am_M} (h : f_Office_span M a0 a1 = some (res, M')) : AMet y_Office_span u_Office_span R_Office_span [.ref a0, .int a1] M (fun r M2 => r = am_rI res ∧ M2 = M') := by
  refine am_met (by decide +kernel) w_Office_span rfl rfl (Nat.le_of_ble_eq_true rfl) ?_
  show AW u_Office_span R_Office_span 0 0 0 [(0, .ref a0), (1, .int a1)] [] M (fun r M2 => r = am_rI res ∧ M2 = M')
  unfold f_Office_span at h
  unfold e_Office_span at h
  refine aw_iload_n d_Office_span_0 rfl rfl ?_
  refine aw_iconst (v := 0) d_Office_span_1 (by decide) ?_
  refine aw_iconst (v := 4) d_Office_span_2 (by decide) ?_
  obtain ⟨t3, e_t3, h⟩ := q_bind h
  refine aw_cS (v := (some (.int t3))) (As := [.int a1, .int (0 : Int32), .int (4 : Int32)]) (rest := []) (st' := [.int t3]) d_Office_span_3 kS_Office_50 ⟨Nat.le_of_ble_eq_true rfl, Nat.le_of_ble_eq_true rfl, Nat.le_of_ble_eq_true rfl, Nat.le_of_ble_eq_true rfl⟩ rfl rfl (Nat.le_of_ble_eq_true rfl) rfl (mt_Office_isWithin e_t3) ?_
  obtain ⟨⟨t6, M6⟩, e_t6, h⟩ := q_bind h
  cases t6 with
  | inr kx =>
    cases h
    exact aw_cSx (As := [.int t3]) (rest := []) d_Office_span_6 kS_Office_54 ⟨Nat.le_of_ble_eq_true rfl, Nat.le_of_ble_eq_true rfl, Nat.le_of_ble_eq_true rfl, Nat.le_of_ble_eq_true rfl⟩ rfl rfl (Nat.le_of_ble_eq_true rfl) (mt_Office_needArgument e_t6) rfl ⟨rfl, rfl⟩
  | inl vx =>
    dsimp only [q_try] at h
    refine aw_cS (v := none) (As := [.int t3]) (rest := []) (st' := []) d_Office_span_6 kS_Office_54 ⟨Nat.le_of_ble_eq_true rfl, Nat.le_of_ble_eq_true rfl, Nat.le_of_ble_eq_true rfl, Nat.le_of_ble_eq_true rfl⟩ rfl rfl (Nat.le_of_ble_eq_true rfl) rfl (mt_Office_needArgument e_t6) ?_
    refine aw_aload_n d_Office_span_9 rfl rfl ?_
    obtain ⟨t10, e_t10, h⟩ := q_bind h
    refine aw_gtr d_Office_span_10 fl_Office_21 (Or.inl ⟨_, rfl⟩) e_t10 ?_
    obtain ⟨o13, e_o13, h⟩ := q_bind h
    obtain ⟨t13, e_t13, h⟩ := q_bind h
    refine aw_cV (v := (some (.int t13))) (As := []) (rest := []) (st' := [.int t13]) d_Office_span_13 kV_Office_138 (q_ob_spec e_o13).1 (q_ob_spec e_o13).2 ⟨Nat.le_of_ble_eq_true rfl, Nat.le_of_ble_eq_true rfl, Nat.le_of_ble_eq_true rfl, Nat.le_of_ble_eq_true rfl⟩ rfl rfl (Nat.le_of_ble_eq_true rfl) rfl (mt_Trip_canBeMeasured e_t13) ?_
    obtain ⟨⟨t16, M16⟩, e_t16, h⟩ := q_bind h
    cases t16 with
    | inr kx =>
      cases h
      exact aw_cSx (As := [.int t13]) (rest := []) d_Office_span_16 kS_Office_112 ⟨Nat.le_of_ble_eq_true rfl, Nat.le_of_ble_eq_true rfl, Nat.le_of_ble_eq_true rfl, Nat.le_of_ble_eq_true rfl⟩ rfl rfl (Nat.le_of_ble_eq_true rfl) (mt_Office_needElement e_t16) rfl ⟨rfl, rfl⟩
    | inl vx =>
      dsimp only [q_try] at h
      refine aw_cS (v := none) (As := [.int t13]) (rest := []) (st' := []) d_Office_span_16 kS_Office_112 ⟨Nat.le_of_ble_eq_true rfl, Nat.le_of_ble_eq_true rfl, Nat.le_of_ble_eq_true rfl, Nat.le_of_ble_eq_true rfl⟩ rfl rfl (Nat.le_of_ble_eq_true rfl) rfl (mt_Office_needElement e_t16) ?_
      refine aw_aload_n d_Office_span_19 rfl rfl ?_
      obtain ⟨t20, e_t20, h⟩ := q_bind h
      refine aw_gtr d_Office_span_20 fl_Office_21 (Or.inl ⟨_, rfl⟩) e_t20 ?_
      obtain ⟨o23, e_o23, h⟩ := q_bind h
      obtain ⟨⟨t23, M23⟩, e_t23, h⟩ := q_bind h
      dsimp only at h
      refine aw_cV (v := none) (As := []) (rest := []) (st' := []) d_Office_span_23 kV_Office_142 (q_ob_spec e_o23).1 (q_ob_spec e_o23).2 ⟨Nat.le_of_ble_eq_true rfl, Nat.le_of_ble_eq_true rfl, Nat.le_of_ble_eq_true rfl, Nat.le_of_ble_eq_true rfl⟩ rfl rfl (Nat.le_of_ble_eq_true rfl) rfl (mt_Trip_measure e_t23) ?_
      refine aw_iload_n d_Office_span_26 rfl rfl ?_
      by_cases c27_0 : a1 = (0 : Int32)
      · rw [if_pos c27_0] at h
        have hx : (a1).toInt = (0 : Int) := by rw [c27_0]; rfl
        refine aw_tableIn (off := 29) (tgt := 56) d_Office_span_27 (by rw [hx]; decide) (by rw [hx]; decide) (by rw [hx]; rfl) (by decide) ?_
        refine aw_aload_n d_Office_span_56 rfl rfl ?_
        obtain ⟨t57, e_t57, h⟩ := q_bind h
        refine aw_gtr d_Office_span_57 fl_Office_21 (Or.inl ⟨_, rfl⟩) e_t57 ?_
        obtain ⟨t60, e_t60, h⟩ := q_bind h
        refine aw_gtr d_Office_span_60 fl_Office_122 (Or.inl ⟨_, rfl⟩) e_t60 ?_
        obtain ⟨t63, e_t63, h⟩ := q_bind h
        refine aw_gti d_Office_span_63 fl_Office_149 (Or.inl rfl) e_t63 ?_
        cases h
        exact aw_ireturn d_Office_span_66 rfl (Nat.le_of_ble_eq_true rfl) (Nat.le_of_ble_eq_true rfl) ⟨rfl, rfl⟩
      rw [if_neg c27_0] at h
      by_cases c27_1 : a1 = (1 : Int32)
      · rw [if_pos c27_1] at h
        have hx : (a1).toInt = (1 : Int) := by rw [c27_1]; rfl
        refine aw_tableIn (off := 40) (tgt := 67) d_Office_span_27 (by rw [hx]; decide) (by rw [hx]; decide) (by rw [hx]; rfl) (by decide) ?_
        refine aw_aload_n d_Office_span_67 rfl rfl ?_
        obtain ⟨t68, e_t68, h⟩ := q_bind h
        refine aw_gtr d_Office_span_68 fl_Office_21 (Or.inl ⟨_, rfl⟩) e_t68 ?_
        obtain ⟨t71, e_t71, h⟩ := q_bind h
        refine aw_gtr d_Office_span_71 fl_Office_122 (Or.inl ⟨_, rfl⟩) e_t71 ?_
        obtain ⟨t74, e_t74, h⟩ := q_bind h
        refine aw_gti d_Office_span_74 fl_Office_152 (Or.inl rfl) e_t74 ?_
        cases h
        exact aw_ireturn d_Office_span_77 rfl (Nat.le_of_ble_eq_true rfl) (Nat.le_of_ble_eq_true rfl) ⟨rfl, rfl⟩
      rw [if_neg c27_1] at h
      by_cases c27_2 : a1 = (2 : Int32)
      · rw [if_pos c27_2] at h
        have hx : (a1).toInt = (2 : Int) := by rw [c27_2]; rfl
        refine aw_tableIn (off := 51) (tgt := 78) d_Office_span_27 (by rw [hx]; decide) (by rw [hx]; decide) (by rw [hx]; rfl) (by decide) ?_
        refine aw_aload_n d_Office_span_78 rfl rfl ?_
        obtain ⟨t79, e_t79, h⟩ := q_bind h
        refine aw_gtr d_Office_span_79 fl_Office_21 (Or.inl ⟨_, rfl⟩) e_t79 ?_
        obtain ⟨t82, e_t82, h⟩ := q_bind h
        refine aw_gti d_Office_span_82 fl_Office_155 (Or.inl rfl) e_t82 ?_
        cases h
        exact aw_ireturn d_Office_span_85 rfl (Nat.le_of_ble_eq_true rfl) (Nat.le_of_ble_eq_true rfl) ⟨rfl, rfl⟩
      rw [if_neg c27_2] at h
      by_cases c27_3 : a1 = (3 : Int32)
      · rw [if_pos c27_3] at h
        have hx : (a1).toInt = (3 : Int) := by rw [c27_3]; rfl
        refine aw_tableIn (off := 59) (tgt := 86) d_Office_span_27 (by rw [hx]; decide) (by rw [hx]; decide) (by rw [hx]; rfl) (by decide) ?_
        refine aw_aload_n d_Office_span_86 rfl rfl ?_
        obtain ⟨t87, e_t87, h⟩ := q_bind h
        refine aw_gtr d_Office_span_87 fl_Office_21 (Or.inl ⟨_, rfl⟩) e_t87 ?_
        obtain ⟨t90, e_t90, h⟩ := q_bind h
        refine aw_gtr d_Office_span_90 fl_Office_122 (Or.inl ⟨_, rfl⟩) e_t90 ?_
        obtain ⟨t93, e_t93, h⟩ := q_bind h
        refine aw_gti d_Office_span_93 fl_Office_158 (Or.inl rfl) e_t93 ?_
        cases h
        exact aw_ireturn d_Office_span_96 rfl (Nat.le_of_ble_eq_true rfl) (Nat.le_of_ble_eq_true rfl) ⟨rfl, rfl⟩
      rw [if_neg c27_3] at h
      refine aw_tableOut (tgt := 97) d_Office_span_27 (by have z0 := lv_neT c27_0 (a := 0) rfl; have z1 := lv_neT c27_1 (a := 1) rfl; have z2 := lv_neT c27_2 (a := 2) rfl; have z3 := lv_neT c27_3 (a := 3) rfl; omega) (by decide) ?_
      refine aw_aload_n d_Office_span_97 rfl rfl ?_
      obtain ⟨t98, e_t98, h⟩ := q_bind h
      refine aw_gtr d_Office_span_98 fl_Office_21 (Or.inl ⟨_, rfl⟩) e_t98 ?_
      obtain ⟨o101, e_o101, h⟩ := q_bind h
      obtain ⟨t101, e_t101, h⟩ := q_bind h
      refine aw_cV (v := (some (.int t101))) (As := []) (rest := []) (st' := [.int t101]) d_Office_span_101 kV_Office_161 (q_ob_spec e_o101).1 (q_ob_spec e_o101).2 ⟨Nat.le_of_ble_eq_true rfl, Nat.le_of_ble_eq_true rfl, Nat.le_of_ble_eq_true rfl, Nat.le_of_ble_eq_true rfl⟩ rfl rfl (Nat.le_of_ble_eq_true rfl) rfl (mt_Trip_longestDuty e_t101) ?_
      cases h
      exact aw_ireturn d_Office_span_104 rfl (Nat.le_of_ble_eq_true rfl) (Nat.le_of_ble_eq_true rfl) ⟨rfl, rfl⟩
def y_Office_pairing : MethodName := ⟨"CrewOffice", "pairing", "(II)I"⟩
def u_Office_pairing : am_U := ("CrewOffice", "pairing", prog_1_method_15_code, 3, (some .int), [])
def R_Office_pairing : Room := { frames := 9, cells := 2, slots := 12, locals := 220 }
theorem d_Office_pairing_0 : decode u_Office_pairing.2.2.1 0 = .ok (.aload_n 0, 1) := by decide +kernel
theorem d_Office_pairing_1 : decode u_Office_pairing.2.2.1 1 = .ok (.iload_n 1, 1) := by decide +kernel
theorem d_Office_pairing_2 : decode u_Office_pairing.2.2.1 2 = .ok (.invokevirtual 171, 3) := by decide +kernel
theorem d_Office_pairing_5 : decode u_Office_pairing.2.2.1 5 = .ok (.invokestatic 112, 3) := by decide +kernel
theorem d_Office_pairing_8 : decode u_Office_pairing.2.2.1 8 = .ok (.iload_n 2, 1) := by decide +kernel
theorem d_Office_pairing_9 : decode u_Office_pairing.2.2.1 9 = .ok (.iconst 0, 1) := by decide +kernel
theorem d_Office_pairing_10 : decode u_Office_pairing.2.2.1 10 = .ok (.aload_n 0, 1) := by decide +kernel
theorem d_Office_pairing_11 : decode u_Office_pairing.2.2.1 11 = .ok (.getfield 28, 3) := by decide +kernel
theorem d_Office_pairing_14 : decode u_Office_pairing.2.2.1 14 = .ok (.getfield 174, 3) := by decide +kernel
theorem d_Office_pairing_17 : decode u_Office_pairing.2.2.1 17 = .ok (.iload_n 1, 1) := by decide +kernel
theorem d_Office_pairing_18 : decode u_Office_pairing.2.2.1 18 = .ok (.aaload, 1) := by decide +kernel
theorem d_Office_pairing_19 : decode u_Office_pairing.2.2.1 19 = .ok (.getfield 126, 3) := by decide +kernel
theorem d_Office_pairing_22 : decode u_Office_pairing.2.2.1 22 = .ok (.iconst 1, 1) := by decide +kernel
theorem d_Office_pairing_23 : decode u_Office_pairing.2.2.1 23 = .ok (.isub, 1) := by decide +kernel
theorem d_Office_pairing_24 : decode u_Office_pairing.2.2.1 24 = .ok (.invokestatic 50, 3) := by decide +kernel
theorem d_Office_pairing_27 : decode u_Office_pairing.2.2.1 27 = .ok (.invokestatic 112, 3) := by decide +kernel
theorem d_Office_pairing_30 : decode u_Office_pairing.2.2.1 30 = .ok (.aload_n 0, 1) := by decide +kernel
theorem d_Office_pairing_31 : decode u_Office_pairing.2.2.1 31 = .ok (.getfield 28, 3) := by decide +kernel
theorem d_Office_pairing_34 : decode u_Office_pairing.2.2.1 34 = .ok (.getfield 174, 3) := by decide +kernel
theorem d_Office_pairing_37 : decode u_Office_pairing.2.2.1 37 = .ok (.iload_n 1, 1) := by decide +kernel
theorem d_Office_pairing_38 : decode u_Office_pairing.2.2.1 38 = .ok (.aaload, 1) := by decide +kernel
theorem d_Office_pairing_39 : decode u_Office_pairing.2.2.1 39 = .ok (.getfield 178, 3) := by decide +kernel
theorem d_Office_pairing_42 : decode u_Office_pairing.2.2.1 42 = .ok (.iload_n 2, 1) := by decide +kernel
theorem d_Office_pairing_43 : decode u_Office_pairing.2.2.1 43 = .ok (.iaload, 1) := by decide +kernel
theorem d_Office_pairing_44 : decode u_Office_pairing.2.2.1 44 = .ok (.ireturn, 1) := by decide +kernel
theorem w_Office_pairing : am_code y_Office_pairing u_Office_pairing ∈ am_ws := am_mem (List.mem_of_getElem? (i := 856) (by decide +kernel)) rfl
def e_Office_pairing (M : am_M) (a0 : Nat) (a1 : Int32) (a2 : Int32) : Option ((Int32 ⊕ Nat) × am_M) := (q_ob M a0 9).bind (fun o2 => (f_Office_isListed M a0 a1).bind (fun t2 => (f_Office_needElement M t2).bind (fun p5 => q_try p5 (fun _ M5 => (q_gtr M5 a0 9 2).bind (fun t11 => (q_gtr M5 t11 6 2).bind (fun t14 => (q_ldr M5 t14 a1).bind (fun t18 => (q_gti M5 t18 4 1).bind (fun t19 => (f_Office_isWithin M5 a2 (0 : Int32) (t19 - (1 : Int32))).bind (fun t24 => (f_Office_needElement M5 t24).bind (fun p27 => q_try p27 (fun _ M27 => (q_gtr M27 a0 9 2).bind (fun t31 => (q_gtr M27 t31 6 2).bind (fun t34 => (q_ldr M27 t34 a1).bind (fun t38 => (q_gtr M27 t38 4 0).bind (fun t39 => (q_ldi M27 t39 a2).bind (fun t43 => some (.inl t43, M27)))))))))))))))))
def f_Office_pairing (M : am_M) (a0 : Nat) (a1 : Int32) (a2 : Int32) : Option ((Int32 ⊕ Nat) × am_M) := e_Office_pairing M a0 a1 a2
theorem fl_Office_174 : am_fl "CrewOffice" 174 6 2 := ⟨by decide, by decide, List.mem_of_getElem? (i := 349) (by decide +kernel)⟩
theorem fl_Office_178 : am_fl "CrewOffice" 178 4 0 := ⟨by decide, by decide, List.mem_of_getElem? (i := 263) (by decide +kernel)⟩
theorem kV_Office_171 : am_kV "CrewOffice" 171 9 y_Office_isListed u_Office_isListed 1 := ⟨List.mem_of_getElem? (i := 857) (by decide +kernel), ⟨List.mem_of_getElem? (i := 859) (by decide +kernel), List.mem_of_getElem? (i := 18) (by decide +kernel)⟩, List.mem_of_getElem? (i := 54) (by decide +kernel), w_Office_isListed, ⟨⟨by decide +kernel, by decide +kernel⟩, by decide +kernel⟩⟩
set_option maxHeartbeats 4000000 in
theorem mt_Office_pairing {M : am_M} {a0 : Nat} {a1 : Int32} {a2 : Int32} {res : Int32 ⊕ Nat} {M' : am_M} (h : f_Office_pairing M a0 a1 a2 = some (res, M')) : AMet y_Office_pairing u_Office_pairing R_Office_pairing [.ref a0, .int a1, .int a2] M (fun r M2 => r = am_rI res ∧ M2 = M') := by
  refine am_met (by decide +kernel) w_Office_pairing rfl rfl (Nat.le_of_ble_eq_true rfl) ?_
  show AW u_Office_pairing R_Office_pairing 0 0 0 [(0, .ref a0), (1, .int a1), (2, .int a2)] [] M (fun r M2 => r = am_rI res ∧ M2 = M')
  unfold f_Office_pairing at h
  unfold e_Office_pairing at h
  refine aw_aload_n d_Office_pairing_0 rfl rfl ?_
  refine aw_iload_n d_Office_pairing_1 rfl rfl ?_
  obtain ⟨o2, e_o2, h⟩ := q_bind h
  obtain ⟨t2, e_t2, h⟩ := q_bind h
  refine aw_cV (v := (some (.int t2))) (As := [.int a1]) (rest := []) (st' := [.int t2]) d_Office_pairing_2 kV_Office_171 (q_ob_spec e_o2).1 (q_ob_spec e_o2).2 ⟨Nat.le_of_ble_eq_true rfl, Nat.le_of_ble_eq_true rfl, Nat.le_of_ble_eq_true rfl, Nat.le_of_ble_eq_true rfl⟩ rfl rfl (Nat.le_of_ble_eq_true rfl) rfl (mt_Office_isListed e_t2) ?_
  obtain ⟨⟨t5, M5⟩, e_t5, h⟩ := q_bind h
  cases t5 with
  | inr kx =>
    cases h
    exact aw_cSx (As := [.int t2]) (rest := []) d_Office_pairing_5 kS_Office_112 ⟨Nat.le_of_ble_eq_true rfl, Nat.le_of_ble_eq_true rfl, Nat.le_of_ble_eq_true rfl, Nat.le_of_ble_eq_true rfl⟩ rfl rfl (Nat.le_of_ble_eq_true rfl) (mt_Office_needElement e_t5) rfl ⟨rfl, rfl⟩
  | inl vx =>
    dsimp only [q_try] at h
    refine aw_cS (v := none) (As := [.int t2]) (rest := []) (st' := []) d_Office_pairing_5 kS_Office_112 ⟨Nat.le_of_ble_eq_true rfl, Nat.le_of_ble_eq_true rfl, Nat.le_of_ble_eq_true rfl, Nat.le_of_ble_eq_true rfl⟩ rfl rfl (Nat.le_of_ble_eq_true rfl) rfl (mt_Office_needElement e_t5) ?_
    refine aw_iload_n d_Office_pairing_8 rfl rfl ?_
    refine aw_iconst (v := 0) d_Office_pairing_9 (by decide) ?_
    refine aw_aload_n d_Office_pairing_10 rfl rfl ?_
    obtain ⟨t11, e_t11, h⟩ := q_bind h
    refine aw_gtr d_Office_pairing_11 fl_Office_28 (Or.inl ⟨_, rfl⟩) e_t11 ?_
    obtain ⟨t14, e_t14, h⟩ := q_bind h
    refine aw_gtr d_Office_pairing_14 fl_Office_174 (Or.inr ⟨_, rfl⟩) e_t14 ?_
    refine aw_iload_n d_Office_pairing_17 rfl rfl ?_
    obtain ⟨t18, e_t18, h⟩ := q_bind h
    refine aw_ldr d_Office_pairing_18 e_t18 ?_
    obtain ⟨t19, e_t19, h⟩ := q_bind h
    refine aw_gti d_Office_pairing_19 fl_Office_126 (Or.inl rfl) e_t19 ?_
    refine aw_iconst (v := 1) d_Office_pairing_22 (by decide) ?_
    refine aw_isub d_Office_pairing_23 ?_
    obtain ⟨t24, e_t24, h⟩ := q_bind h
    refine aw_cS (v := (some (.int t24))) (As := [.int a2, .int (0 : Int32), .int (t19 - (1 : Int32))]) (rest := []) (st' := [.int t24]) d_Office_pairing_24 kS_Office_50 ⟨Nat.le_of_ble_eq_true rfl, Nat.le_of_ble_eq_true rfl, Nat.le_of_ble_eq_true rfl, Nat.le_of_ble_eq_true rfl⟩ rfl rfl (Nat.le_of_ble_eq_true rfl) rfl (mt_Office_isWithin e_t24) ?_
    obtain ⟨⟨t27, M27⟩, e_t27, h⟩ := q_bind h
    cases t27 with
    | inr kx =>
      cases h
      exact aw_cSx (As := [.int t24]) (rest := []) d_Office_pairing_27 kS_Office_112 ⟨Nat.le_of_ble_eq_true rfl, Nat.le_of_ble_eq_true rfl, Nat.le_of_ble_eq_true rfl, Nat.le_of_ble_eq_true rfl⟩ rfl rfl (Nat.le_of_ble_eq_true rfl) (mt_Office_needElement e_t27) rfl ⟨rfl, rfl⟩
    | inl vx =>
      dsimp only [q_try] at h
      refine aw_cS (v := none) (As := [.int t24]) (rest := []) (st' := []) d_Office_pairing_27 kS_Office_112 ⟨Nat.le_of_ble_eq_true rfl, Nat.le_of_ble_eq_true rfl, Nat.le_of_ble_eq_true rfl, Nat.le_of_ble_eq_true rfl⟩ rfl rfl (Nat.le_of_ble_eq_true rfl) rfl (mt_Office_needElement e_t27) ?_
      refine aw_aload_n d_Office_pairing_30 rfl rfl ?_
      obtain ⟨t31, e_t31, h⟩ := q_bind h
      refine aw_gtr d_Office_pairing_31 fl_Office_28 (Or.inl ⟨_, rfl⟩) e_t31 ?_
      obtain ⟨t34, e_t34, h⟩ := q_bind h
      refine aw_gtr d_Office_pairing_34 fl_Office_174 (Or.inr ⟨_, rfl⟩) e_t34 ?_
      refine aw_iload_n d_Office_pairing_37 rfl rfl ?_
      obtain ⟨t38, e_t38, h⟩ := q_bind h
      refine aw_ldr d_Office_pairing_38 e_t38 ?_
      obtain ⟨t39, e_t39, h⟩ := q_bind h
      refine aw_gtr d_Office_pairing_39 fl_Office_178 (Or.inr ⟨_, rfl⟩) e_t39 ?_
      refine aw_iload_n d_Office_pairing_42 rfl rfl ?_
      obtain ⟨t43, e_t43, h⟩ := q_bind h
      refine aw_ldi d_Office_pairing_43 e_t43 ?_
      cases h
      exact aw_ireturn d_Office_pairing_44 rfl (Nat.le_of_ble_eq_true rfl) (Nat.le_of_ble_eq_true rfl) ⟨rfl, rfl⟩
def y_Office_cover : MethodName := ⟨"CrewOffice", "cover", "()I"⟩
def u_Office_cover : am_U := ("CrewOffice", "cover", prog_1_method_16_code, 1, (some .int), [])
def R_Office_cover : Room := { frames := 23, cells := 0, slots := 0, locals := 874 }
theorem d_Office_cover_0 : decode u_Office_cover.2.2.1 0 = .ok (.aload_n 0, 1) := by decide +kernel
theorem d_Office_cover_1 : decode u_Office_cover.2.2.1 1 = .ok (.getfield 46, 3) := by decide +kernel
theorem d_Office_cover_4 : decode u_Office_cover.2.2.1 4 = .ok (.invokevirtual 181, 3) := by decide +kernel
theorem d_Office_cover_7 : decode u_Office_cover.2.2.1 7 = .ok (.aload_n 0, 1) := by decide +kernel
theorem d_Office_cover_8 : decode u_Office_cover.2.2.1 8 = .ok (.getfield 37, 3) := by decide +kernel
theorem d_Office_cover_11 : decode u_Office_cover.2.2.1 11 = .ok (.invokevirtual 184, 3) := by decide +kernel
theorem d_Office_cover_14 : decode u_Office_cover.2.2.1 14 = .ok (.aload_n 0, 1) := by decide +kernel
theorem d_Office_cover_15 : decode u_Office_cover.2.2.1 15 = .ok (.getfield 28, 3) := by decide +kernel
theorem d_Office_cover_18 : decode u_Office_cover.2.2.1 18 = .ok (.getfield 168, 3) := by decide +kernel
theorem d_Office_cover_21 : decode u_Office_cover.2.2.1 21 = .ok (.iconst (-1), 1) := by decide +kernel
theorem d_Office_cover_22 : decode u_Office_cover.2.2.1 22 = .ok (.if_icmp .ne 7, 3) := by decide +kernel
theorem d_Office_cover_25 : decode u_Office_cover.2.2.1 25 = .ok (.iconst (-1), 1) := by decide +kernel
theorem d_Office_cover_26 : decode u_Office_cover.2.2.1 26 = .ok (.goto 10, 3) := by decide +kernel
theorem d_Office_cover_29 : decode u_Office_cover.2.2.1 29 = .ok (.aload_n 0, 1) := by decide +kernel
theorem d_Office_cover_30 : decode u_Office_cover.2.2.1 30 = .ok (.getfield 37, 3) := by decide +kernel
theorem d_Office_cover_33 : decode u_Office_cover.2.2.1 33 = .ok (.invokevirtual 185, 3) := by decide +kernel
theorem d_Office_cover_36 : decode u_Office_cover.2.2.1 36 = .ok (.ireturn, 1) := by decide +kernel
theorem w_Office_cover : am_code y_Office_cover u_Office_cover ∈ am_ws := am_mem (List.mem_of_getElem? (i := 595) (by decide +kernel)) rfl
def e_Office_cover (M : am_M) (a0 : Nat) : Option (Int32 × am_M) := (q_gtr M a0 9 4).bind (fun t1 => (q_ob M t1 8).bind (fun o4 => (f_Sharing_forget M t1).bind (fun p4 => (q_gtr p4.2 a0 9 3).bind (fun t8 => (q_ob p4.2 t8 7).bind (fun o11 => (f_Choice_forget p4.2 t8).bind (fun p11 => (q_gtr p11.2 a0 9 2).bind (fun t15 => (q_gti p11.2 t15 6 3).bind (fun t18 => if t18 = (-1 : Int32) then (some ((-1 : Int32), p11.2)) else ((q_gtr p11.2 a0 9 3).bind (fun t30 => (q_ob p11.2 t30 7).bind (fun o33 => (f_Choice_choose p11.2 t30).bind (fun p33 => some (p33.1, p33.2)))))))))))))
def f_Office_cover (M : am_M) (a0 : Nat) : Option (Int32 × am_M) := e_Office_cover M a0
theorem fl_Office_37 : am_fl "CrewOffice" 37 9 3 := ⟨by decide, by decide, List.mem_of_getElem? (i := 432) (by decide +kernel)⟩
theorem fl_Office_46 : am_fl "CrewOffice" 46 9 4 := ⟨by decide, by decide, List.mem_of_getElem? (i := 433) (by decide +kernel)⟩
theorem kV_Office_181 : am_kV "CrewOffice" 181 8 y_Sharing_forget u_Sharing_forget 0 := ⟨List.mem_of_getElem? (i := 465) (by decide +kernel), ⟨List.mem_of_getElem? (i := 466) (by decide +kernel), List.mem_of_getElem? (i := 467) (by decide +kernel)⟩, List.mem_of_getElem? (i := 64) (by decide +kernel), w_Sharing_forget, ⟨⟨by decide +kernel, by decide +kernel⟩, by decide +kernel⟩⟩
theorem kV_Office_184 : am_kV "CrewOffice" 184 7 y_Choice_forget u_Choice_forget 0 := ⟨List.mem_of_getElem? (i := 461) (by decide +kernel), ⟨List.mem_of_getElem? (i := 462) (by decide +kernel), List.mem_of_getElem? (i := 463) (by decide +kernel)⟩, List.mem_of_getElem? (i := 63) (by decide +kernel), w_Choice_forget, ⟨⟨by decide +kernel, by decide +kernel⟩, by decide +kernel⟩⟩
theorem kV_Office_185 : am_kV "CrewOffice" 185 7 y_Choice_choose u_Choice_choose 0 := ⟨List.mem_of_getElem? (i := 596) (by decide +kernel), ⟨List.mem_of_getElem? (i := 597) (by decide +kernel), List.mem_of_getElem? (i := 598) (by decide +kernel)⟩, List.mem_of_getElem? (i := 63) (by decide +kernel), w_Choice_choose, ⟨⟨by decide +kernel, by decide +kernel⟩, by decide +kernel⟩⟩
set_option maxHeartbeats 4000000 in
theorem mt_Office_cover {M : am_M} {a0 : Nat} {res : Int32} {M' : am_M} (h : f_Office_cover M a0 = some (res, M')) : AMet y_Office_cover u_Office_cover R_Office_cover [.ref a0] M (fun r M2 => r = .inl (some (.int res)) ∧ M2 = M') := by
  refine am_met (by decide +kernel) w_Office_cover rfl rfl (Nat.le_of_ble_eq_true rfl) ?_
  show AW u_Office_cover R_Office_cover 0 0 0 [(0, .ref a0)] [] M (fun r M2 => r = .inl (some (.int res)) ∧ M2 = M')
  unfold f_Office_cover at h
  unfold e_Office_cover at h
  refine aw_aload_n d_Office_cover_0 rfl rfl ?_
  obtain ⟨t1, e_t1, h⟩ := q_bind h
  refine aw_gtr d_Office_cover_1 fl_Office_46 (Or.inl ⟨_, rfl⟩) e_t1 ?_
  obtain ⟨o4, e_o4, h⟩ := q_bind h
  obtain ⟨⟨t4, M4⟩, e_t4, h⟩ := q_bind h
  dsimp only at h
  refine aw_cV (v := none) (As := []) (rest := []) (st' := []) d_Office_cover_4 kV_Office_181 (q_ob_spec e_o4).1 (q_ob_spec e_o4).2 ⟨Nat.le_of_ble_eq_true rfl, Nat.le_of_ble_eq_true rfl, Nat.le_of_ble_eq_true rfl, Nat.le_of_ble_eq_true rfl⟩ rfl rfl (Nat.le_of_ble_eq_true rfl) rfl (mt_Sharing_forget e_t4) ?_
  refine aw_aload_n d_Office_cover_7 rfl rfl ?_
  obtain ⟨t8, e_t8, h⟩ := q_bind h
  refine aw_gtr d_Office_cover_8 fl_Office_37 (Or.inl ⟨_, rfl⟩) e_t8 ?_
  obtain ⟨o11, e_o11, h⟩ := q_bind h
  obtain ⟨⟨t11, M11⟩, e_t11, h⟩ := q_bind h
  dsimp only at h
  refine aw_cV (v := none) (As := []) (rest := []) (st' := []) d_Office_cover_11 kV_Office_184 (q_ob_spec e_o11).1 (q_ob_spec e_o11).2 ⟨Nat.le_of_ble_eq_true rfl, Nat.le_of_ble_eq_true rfl, Nat.le_of_ble_eq_true rfl, Nat.le_of_ble_eq_true rfl⟩ rfl rfl (Nat.le_of_ble_eq_true rfl) rfl (mt_Choice_forget e_t11) ?_
  refine aw_aload_n d_Office_cover_14 rfl rfl ?_
  obtain ⟨t15, e_t15, h⟩ := q_bind h
  refine aw_gtr d_Office_cover_15 fl_Office_28 (Or.inl ⟨_, rfl⟩) e_t15 ?_
  obtain ⟨t18, e_t18, h⟩ := q_bind h
  refine aw_gti d_Office_cover_18 fl_Office_168 (Or.inl rfl) e_t18 ?_
  refine aw_iconst (v := -1) d_Office_cover_21 (by decide) ?_
  refine aw_icmp_ne (tgt := 29) d_Office_cover_22 (by decide) (fun hc => ?_) (fun hc => ?_)
  · rw [if_neg hc] at h
    refine aw_aload_n d_Office_cover_29 rfl rfl ?_
    obtain ⟨t30, e_t30, h⟩ := q_bind h
    refine aw_gtr d_Office_cover_30 fl_Office_37 (Or.inl ⟨_, rfl⟩) e_t30 ?_
    obtain ⟨o33, e_o33, h⟩ := q_bind h
    obtain ⟨⟨t33, M33⟩, e_t33, h⟩ := q_bind h
    dsimp only at h
    refine aw_cV (v := (some (.int t33))) (As := []) (rest := []) (st' := [.int t33]) d_Office_cover_33 kV_Office_185 (q_ob_spec e_o33).1 (q_ob_spec e_o33).2 ⟨Nat.le_of_ble_eq_true rfl, Nat.le_of_ble_eq_true rfl, Nat.le_of_ble_eq_true rfl, Nat.le_of_ble_eq_true rfl⟩ rfl rfl (Nat.le_of_ble_eq_true rfl) rfl (mt_Choice_choose e_t33) ?_
    cases h
    exact aw_ireturn d_Office_cover_36 rfl (Nat.le_of_ble_eq_true rfl) (Nat.le_of_ble_eq_true rfl) ⟨rfl, rfl⟩
  · rw [if_pos hc] at h
    refine aw_iconst (v := -1) d_Office_cover_25 (by decide) ?_
    refine aw_goto (tgt := 36) d_Office_cover_26 (by decide) ?_
    cases h
    exact aw_ireturn d_Office_cover_36 rfl (Nat.le_of_ble_eq_true rfl) (Nat.le_of_ble_eq_true rfl) ⟨rfl, rfl⟩
def y_Office_covers : MethodName := ⟨"CrewOffice", "covers", "(I)Z"⟩
def u_Office_covers : am_U := ("CrewOffice", "covers", prog_1_method_17_code, 2, (some .boolean), [])
def R_Office_covers : Room := { frames := 9, cells := 1, slots := 6, locals := 220 }
theorem d_Office_covers_0 : decode u_Office_covers.2.2.1 0 = .ok (.aload_n 0, 1) := by decide +kernel
theorem d_Office_covers_1 : decode u_Office_covers.2.2.1 1 = .ok (.iload_n 1, 1) := by decide +kernel
theorem d_Office_covers_2 : decode u_Office_covers.2.2.1 2 = .ok (.invokevirtual 171, 3) := by decide +kernel
theorem d_Office_covers_5 : decode u_Office_covers.2.2.1 5 = .ok (.invokestatic 112, 3) := by decide +kernel
theorem d_Office_covers_8 : decode u_Office_covers.2.2.1 8 = .ok (.aload_n 0, 1) := by decide +kernel
theorem d_Office_covers_9 : decode u_Office_covers.2.2.1 9 = .ok (.getfield 37, 3) := by decide +kernel
theorem d_Office_covers_12 : decode u_Office_covers.2.2.1 12 = .ok (.iload_n 1, 1) := by decide +kernel
theorem d_Office_covers_13 : decode u_Office_covers.2.2.1 13 = .ok (.invokevirtual 188, 3) := by decide +kernel
theorem d_Office_covers_16 : decode u_Office_covers.2.2.1 16 = .ok (.iconst (-1), 1) := by decide +kernel
theorem d_Office_covers_17 : decode u_Office_covers.2.2.1 17 = .ok (.if_icmp .eq 7, 3) := by decide +kernel
theorem d_Office_covers_20 : decode u_Office_covers.2.2.1 20 = .ok (.iconst 1, 1) := by decide +kernel
theorem d_Office_covers_21 : decode u_Office_covers.2.2.1 21 = .ok (.goto 4, 3) := by decide +kernel
theorem d_Office_covers_24 : decode u_Office_covers.2.2.1 24 = .ok (.iconst 0, 1) := by decide +kernel
theorem d_Office_covers_25 : decode u_Office_covers.2.2.1 25 = .ok (.ireturn, 1) := by decide +kernel
theorem w_Office_covers : am_code y_Office_covers u_Office_covers ∈ am_ws := am_mem (List.mem_of_getElem? (i := 867) (by decide +kernel)) rfl
def e_Office_covers (M : am_M) (a0 : Nat) (a1 : Int32) : Option ((Int32 ⊕ Nat) × am_M) := (q_ob M a0 9).bind (fun o2 => (f_Office_isListed M a0 a1).bind (fun t2 => (f_Office_needElement M t2).bind (fun p5 => q_try p5 (fun _ M5 => (q_gtr M5 a0 9 3).bind (fun t9 => (q_ob M5 t9 7).bind (fun o13 => (f_Choice_placeOf M5 t9 a1).bind (fun t13 => if t13 = (-1 : Int32) then (some (.inl (0 : Int32), M5)) else (some (.inl (1 : Int32), M5)))))))))
def f_Office_covers (M : am_M) (a0 : Nat) (a1 : Int32) : Option ((Int32 ⊕ Nat) × am_M) := e_Office_covers M a0 a1
theorem kV_Office_188 : am_kV "CrewOffice" 188 7 y_Choice_placeOf u_Choice_placeOf 1 := ⟨List.mem_of_getElem? (i := 868) (by decide +kernel), ⟨List.mem_of_getElem? (i := 869) (by decide +kernel), List.mem_of_getElem? (i := 870) (by decide +kernel)⟩, List.mem_of_getElem? (i := 63) (by decide +kernel), w_Choice_placeOf, ⟨⟨by decide +kernel, by decide +kernel⟩, by decide +kernel⟩⟩
set_option maxHeartbeats 4000000 in
theorem mt_Office_covers {M : am_M} {a0 : Nat} {a1 : Int32} {res : Int32 ⊕ Nat} {M' : am_M} (h : f_Office_covers M a0 a1 = some (res, M')) : AMet y_Office_covers u_Office_covers R_Office_covers [.ref a0, .int a1] M (fun r M2 => r = am_rI res ∧ M2 = M') := by
  refine am_met (by decide +kernel) w_Office_covers rfl rfl (Nat.le_of_ble_eq_true rfl) ?_
  show AW u_Office_covers R_Office_covers 0 0 0 [(0, .ref a0), (1, .int a1)] [] M (fun r M2 => r = am_rI res ∧ M2 = M')
  unfold f_Office_covers at h
  unfold e_Office_covers at h
  refine aw_aload_n d_Office_covers_0 rfl rfl ?_
  refine aw_iload_n d_Office_covers_1 rfl rfl ?_
  obtain ⟨o2, e_o2, h⟩ := q_bind h
  obtain ⟨t2, e_t2, h⟩ := q_bind h
  refine aw_cV (v := (some (.int t2))) (As := [.int a1]) (rest := []) (st' := [.int t2]) d_Office_covers_2 kV_Office_171 (q_ob_spec e_o2).1 (q_ob_spec e_o2).2 ⟨Nat.le_of_ble_eq_true rfl, Nat.le_of_ble_eq_true rfl, Nat.le_of_ble_eq_true rfl, Nat.le_of_ble_eq_true rfl⟩ rfl rfl (Nat.le_of_ble_eq_true rfl) rfl (mt_Office_isListed e_t2) ?_
  obtain ⟨⟨t5, M5⟩, e_t5, h⟩ := q_bind h
  cases t5 with
  | inr kx =>
    cases h
    exact aw_cSx (As := [.int t2]) (rest := []) d_Office_covers_5 kS_Office_112 ⟨Nat.le_of_ble_eq_true rfl, Nat.le_of_ble_eq_true rfl, Nat.le_of_ble_eq_true rfl, Nat.le_of_ble_eq_true rfl⟩ rfl rfl (Nat.le_of_ble_eq_true rfl) (mt_Office_needElement e_t5) rfl ⟨rfl, rfl⟩
  | inl vx =>
    dsimp only [q_try] at h
    refine aw_cS (v := none) (As := [.int t2]) (rest := []) (st' := []) d_Office_covers_5 kS_Office_112 ⟨Nat.le_of_ble_eq_true rfl, Nat.le_of_ble_eq_true rfl, Nat.le_of_ble_eq_true rfl, Nat.le_of_ble_eq_true rfl⟩ rfl rfl (Nat.le_of_ble_eq_true rfl) rfl (mt_Office_needElement e_t5) ?_
    refine aw_aload_n d_Office_covers_8 rfl rfl ?_
    obtain ⟨t9, e_t9, h⟩ := q_bind h
    refine aw_gtr d_Office_covers_9 fl_Office_37 (Or.inl ⟨_, rfl⟩) e_t9 ?_
    refine aw_iload_n d_Office_covers_12 rfl rfl ?_
    obtain ⟨o13, e_o13, h⟩ := q_bind h
    obtain ⟨t13, e_t13, h⟩ := q_bind h
    refine aw_cV (v := (some (.int t13))) (As := [.int a1]) (rest := []) (st' := [.int t13]) d_Office_covers_13 kV_Office_188 (q_ob_spec e_o13).1 (q_ob_spec e_o13).2 ⟨Nat.le_of_ble_eq_true rfl, Nat.le_of_ble_eq_true rfl, Nat.le_of_ble_eq_true rfl, Nat.le_of_ble_eq_true rfl⟩ rfl rfl (Nat.le_of_ble_eq_true rfl) rfl (mt_Choice_placeOf e_t13) ?_
    refine aw_iconst (v := -1) d_Office_covers_16 (by decide) ?_
    refine aw_icmp_eq (tgt := 24) d_Office_covers_17 (by decide) (fun hc => ?_) (fun hc => ?_)
    · rw [if_pos hc] at h
      refine aw_iconst (v := 0) d_Office_covers_24 (by decide) ?_
      cases h
      exact aw_zreturn d_Office_covers_25 rfl (by decide) (Nat.le_of_ble_eq_true rfl) (Nat.le_of_ble_eq_true rfl) ⟨rfl, rfl⟩
    · rw [if_neg hc] at h
      refine aw_iconst (v := 1) d_Office_covers_20 (by decide) ?_
      refine aw_goto (tgt := 25) d_Office_covers_21 (by decide) ?_
      cases h
      exact aw_zreturn d_Office_covers_25 rfl (by decide) (Nat.le_of_ble_eq_true rfl) (Nat.le_of_ble_eq_true rfl) ⟨rfl, rfl⟩
def y_Office_bid : MethodName := ⟨"CrewOffice", "bid", "(IIII)I"⟩
def u_Office_bid : am_U := ("CrewOffice", "bid", prog_1_method_18_code, 5, (some .int), [])
def R_Office_bid : Room := { frames := 9, cells := 6, slots := 36, locals := 220 }
theorem d_Office_bid_0 : decode u_Office_bid.2.2.1 0 = .ok (.iload_n 1, 1) := by decide +kernel
theorem d_Office_bid_1 : decode u_Office_bid.2.2.1 1 = .ok (.iconst 0, 1) := by decide +kernel
theorem d_Office_bid_2 : decode u_Office_bid.2.2.1 2 = .ok (.iconst 3, 1) := by decide +kernel
theorem d_Office_bid_3 : decode u_Office_bid.2.2.1 3 = .ok (.invokestatic 50, 3) := by decide +kernel
theorem d_Office_bid_6 : decode u_Office_bid.2.2.1 6 = .ok (.invokestatic 54, 3) := by decide +kernel
theorem d_Office_bid_9 : decode u_Office_bid.2.2.1 9 = .ok (.iload_n 2, 1) := by decide +kernel
theorem d_Office_bid_10 : decode u_Office_bid.2.2.1 10 = .ok (.iconst 0, 1) := by decide +kernel
theorem d_Office_bid_11 : decode u_Office_bid.2.2.1 11 = .ok (.iconst 2, 1) := by decide +kernel
theorem d_Office_bid_12 : decode u_Office_bid.2.2.1 12 = .ok (.invokestatic 50, 3) := by decide +kernel
theorem d_Office_bid_15 : decode u_Office_bid.2.2.1 15 = .ok (.invokestatic 54, 3) := by decide +kernel
theorem d_Office_bid_18 : decode u_Office_bid.2.2.1 18 = .ok (.iload_n 3, 1) := by decide +kernel
theorem d_Office_bid_19 : decode u_Office_bid.2.2.1 19 = .ok (.iconst 0, 1) := by decide +kernel
theorem d_Office_bid_20 : decode u_Office_bid.2.2.1 20 = .ok (.iload_n 2, 1) := by decide +kernel
theorem d_Office_bid_21 : decode u_Office_bid.2.2.1 21 = .ok (.invokestatic 191, 3) := by decide +kernel
theorem d_Office_bid_24 : decode u_Office_bid.2.2.1 24 = .ok (.invokestatic 50, 3) := by decide +kernel
theorem d_Office_bid_27 : decode u_Office_bid.2.2.1 27 = .ok (.invokestatic 54, 3) := by decide +kernel
theorem d_Office_bid_30 : decode u_Office_bid.2.2.1 30 = .ok (.iload 4, 2) := by decide +kernel
theorem d_Office_bid_32 : decode u_Office_bid.2.2.1 32 = .ok (.sipush (-1000), 3) := by decide +kernel
theorem d_Office_bid_35 : decode u_Office_bid.2.2.1 35 = .ok (.sipush 1000, 3) := by decide +kernel
theorem d_Office_bid_38 : decode u_Office_bid.2.2.1 38 = .ok (.invokestatic 50, 3) := by decide +kernel
theorem d_Office_bid_41 : decode u_Office_bid.2.2.1 41 = .ok (.invokestatic 54, 3) := by decide +kernel
theorem d_Office_bid_44 : decode u_Office_bid.2.2.1 44 = .ok (.aload_n 0, 1) := by decide +kernel
theorem d_Office_bid_45 : decode u_Office_bid.2.2.1 45 = .ok (.getfield 10, 3) := by decide +kernel
theorem d_Office_bid_48 : decode u_Office_bid.2.2.1 48 = .ok (.getfield 102, 3) := by decide +kernel
theorem d_Office_bid_51 : decode u_Office_bid.2.2.1 51 = .ok (.iload_n 1, 1) := by decide +kernel
theorem d_Office_bid_52 : decode u_Office_bid.2.2.1 52 = .ok (.aaload, 1) := by decide +kernel
theorem d_Office_bid_53 : decode u_Office_bid.2.2.1 53 = .ok (.getfield 111, 3) := by decide +kernel
theorem d_Office_bid_56 : decode u_Office_bid.2.2.1 56 = .ok (.invokestatic 112, 3) := by decide +kernel
theorem d_Office_bid_59 : decode u_Office_bid.2.2.1 59 = .ok (.aload_n 0, 1) := by decide +kernel
theorem d_Office_bid_60 : decode u_Office_bid.2.2.1 60 = .ok (.getfield 10, 3) := by decide +kernel
theorem d_Office_bid_63 : decode u_Office_bid.2.2.1 63 = .ok (.getfield 102, 3) := by decide +kernel
theorem d_Office_bid_66 : decode u_Office_bid.2.2.1 66 = .ok (.iload_n 1, 1) := by decide +kernel
theorem d_Office_bid_67 : decode u_Office_bid.2.2.1 67 = .ok (.aaload, 1) := by decide +kernel
theorem d_Office_bid_68 : decode u_Office_bid.2.2.1 68 = .ok (.getfield 194, 3) := by decide +kernel
theorem d_Office_bid_71 : decode u_Office_bid.2.2.1 71 = .ok (.bipush 6, 2) := by decide +kernel
theorem d_Office_bid_73 : decode u_Office_bid.2.2.1 73 = .ok (.if_icmp .ge 7, 3) := by decide +kernel
theorem d_Office_bid_76 : decode u_Office_bid.2.2.1 76 = .ok (.iconst 1, 1) := by decide +kernel
theorem d_Office_bid_77 : decode u_Office_bid.2.2.1 77 = .ok (.goto 4, 3) := by decide +kernel
theorem d_Office_bid_80 : decode u_Office_bid.2.2.1 80 = .ok (.iconst 0, 1) := by decide +kernel
theorem d_Office_bid_81 : decode u_Office_bid.2.2.1 81 = .ok (.invokestatic 131, 3) := by decide +kernel
theorem d_Office_bid_84 : decode u_Office_bid.2.2.1 84 = .ok (.aload_n 0, 1) := by decide +kernel
theorem d_Office_bid_85 : decode u_Office_bid.2.2.1 85 = .ok (.getfield 10, 3) := by decide +kernel
theorem d_Office_bid_88 : decode u_Office_bid.2.2.1 88 = .ok (.getfield 102, 3) := by decide +kernel
theorem d_Office_bid_91 : decode u_Office_bid.2.2.1 91 = .ok (.iload_n 1, 1) := by decide +kernel
theorem d_Office_bid_92 : decode u_Office_bid.2.2.1 92 = .ok (.aaload, 1) := by decide +kernel
theorem d_Office_bid_93 : decode u_Office_bid.2.2.1 93 = .ok (.iload_n 2, 1) := by decide +kernel
theorem d_Office_bid_94 : decode u_Office_bid.2.2.1 94 = .ok (.iload_n 3, 1) := by decide +kernel
theorem d_Office_bid_95 : decode u_Office_bid.2.2.1 95 = .ok (.iload 4, 2) := by decide +kernel
theorem d_Office_bid_97 : decode u_Office_bid.2.2.1 97 = .ok (.invokevirtual 197, 3) := by decide +kernel
theorem d_Office_bid_100 : decode u_Office_bid.2.2.1 100 = .ok (.aload_n 0, 1) := by decide +kernel
theorem d_Office_bid_101 : decode u_Office_bid.2.2.1 101 = .ok (.getfield 46, 3) := by decide +kernel
theorem d_Office_bid_104 : decode u_Office_bid.2.2.1 104 = .ok (.invokevirtual 181, 3) := by decide +kernel
theorem d_Office_bid_107 : decode u_Office_bid.2.2.1 107 = .ok (.aload_n 0, 1) := by decide +kernel
theorem d_Office_bid_108 : decode u_Office_bid.2.2.1 108 = .ok (.getfield 10, 3) := by decide +kernel
theorem d_Office_bid_111 : decode u_Office_bid.2.2.1 111 = .ok (.getfield 102, 3) := by decide +kernel
theorem d_Office_bid_114 : decode u_Office_bid.2.2.1 114 = .ok (.iload_n 1, 1) := by decide +kernel
theorem d_Office_bid_115 : decode u_Office_bid.2.2.1 115 = .ok (.aaload, 1) := by decide +kernel
theorem d_Office_bid_116 : decode u_Office_bid.2.2.1 116 = .ok (.getfield 194, 3) := by decide +kernel
theorem d_Office_bid_119 : decode u_Office_bid.2.2.1 119 = .ok (.ireturn, 1) := by decide +kernel
theorem w_Office_bid : am_code y_Office_bid u_Office_bid ∈ am_ws := am_mem (List.mem_of_getElem? (i := 878) (by decide +kernel)) rfl
def a_Office_bid_0 (rc : Nat → Nat → Int32 → Int32 → Int32 → Int32 → Int32 → am_M → Option ((Int32 ⊕ Nat) × am_M)) (r0 : Nat) (x1 : Int32) (x2 : Int32) (x3 : Int32) (x4 : Int32) (s0 : Int32) (M : am_M) : Option ((Int32 ⊕ Nat) × am_M) := (f_Office_needState M s0).bind (fun p81 => q_try p81 (fun _ M81 => (q_gtr M81 r0 9 0).bind (fun t85 => (q_gtr M81 t85 3 2).bind (fun t88 => (q_ldr M81 t88 x1).bind (fun t92 => (q_ob M81 t92 2).bind (fun o97 => (f_Member_addBid M81 t92 x2 x3 x4).bind (fun p97 => (q_gtr p97.2 r0 9 4).bind (fun t101 => (q_ob p97.2 t101 8).bind (fun o104 => (f_Sharing_forget p97.2 t101).bind (fun p104 => (q_gtr p104.2 r0 9 0).bind (fun t108 => (q_gtr p104.2 t108 3 2).bind (fun t111 => (q_ldr p104.2 t111 x1).bind (fun t115 => (q_gti p104.2 t115 2 7).bind (fun t116 => some (.inl t116, p104.2)))))))))))))))
def g_Office_bid : Nat → Nat → Nat → Int32 → Int32 → Int32 → Int32 → Int32 → am_M → Option ((Int32 ⊕ Nat) × am_M)
  | 0, _, _, _, _, _, _, _, _ => none
  | F + 1, 0, r0, x1, x2, x3, x4, s0, M => a_Office_bid_0 (g_Office_bid F) r0 x1 x2 x3 x4 s0 M
  | _ + 1, _ + 1, _, _, _, _, _, _, _ => none
def e_Office_bid (rc : Nat → Nat → Int32 → Int32 → Int32 → Int32 → Int32 → am_M → Option ((Int32 ⊕ Nat) × am_M)) (M : am_M) (a0 : Nat) (a1 : Int32) (a2 : Int32) (a3 : Int32) (a4 : Int32) : Option ((Int32 ⊕ Nat) × am_M) := (f_Office_isWithin M a1 (0 : Int32) (3 : Int32)).bind (fun t3 => (f_Office_needArgument M t3).bind (fun p6 => q_try p6 (fun _ M6 => (f_Office_isWithin M6 a2 (0 : Int32) (2 : Int32)).bind (fun t12 => (f_Office_needArgument M6 t12).bind (fun p15 => q_try p15 (fun _ M15 => (f_Office_greatestArgument M15 a2).bind (fun t21 => (f_Office_isWithin M15 a3 (0 : Int32) t21).bind (fun t24 => (f_Office_needArgument M15 t24).bind (fun p27 => q_try p27 (fun _ M27 => (f_Office_isWithin M27 a4 (-1000 : Int32) (1000 : Int32)).bind (fun t38 => (f_Office_needArgument M27 t38).bind (fun p41 => q_try p41 (fun _ M41 => (q_gtr M41 a0 9 0).bind (fun t45 => (q_gtr M41 t45 3 2).bind (fun t48 => (q_ldr M41 t48 a1).bind (fun t52 => (q_gti M41 t52 2 0).bind (fun t53 => (f_Office_needElement M41 t53).bind (fun p56 => q_try p56 (fun _ M56 => (q_gtr M56 a0 9 0).bind (fun t60 => (q_gtr M56 t60 3 2).bind (fun t63 => (q_ldr M56 t63 a1).bind (fun t67 => (q_gti M56 t67 2 7).bind (fun t68 => if (6 : Int32) ≤ t68 then (rc 0 a0 a1 a2 a3 a4 (0 : Int32) M56) else (rc 0 a0 a1 a2 a3 a4 (1 : Int32) M56))))))))))))))))))))))))
def f_Office_bid (M : am_M) (a0 : Nat) (a1 : Int32) (a2 : Int32) (a3 : Int32) (a4 : Int32) : Option ((Int32 ⊕ Nat) × am_M) := e_Office_bid (g_Office_bid 1000000000) M a0 a1 a2 a3 a4
theorem fl_Office_102 : am_fl "CrewOffice" 102 3 2 := ⟨by decide, by decide, List.mem_of_getElem? (i := 227) (by decide +kernel)⟩
theorem fl_Office_111 : am_fl "CrewOffice" 111 2 0 := ⟨by decide, by decide, List.mem_of_getElem? (i := 169) (by decide +kernel)⟩
theorem fl_Office_194 : am_fl "CrewOffice" 194 2 7 := ⟨by decide, by decide, List.mem_of_getElem? (i := 184) (by decide +kernel)⟩
theorem kS_Office_191 : am_kS "CrewOffice" 191 y_Office_greatestArgument u_Office_greatestArgument 1 := ⟨List.mem_of_getElem? (i := 879) (by decide +kernel), List.mem_of_getElem? (i := 880) (by decide +kernel), List.mem_of_getElem? (i := 54) (by decide +kernel), w_Office_greatestArgument, ⟨⟨by decide +kernel, by decide +kernel⟩, by decide +kernel⟩⟩
theorem kV_Office_197 : am_kV "CrewOffice" 197 2 y_Member_addBid u_Member_addBid 3 := ⟨List.mem_of_getElem? (i := 882) (by decide +kernel), ⟨List.mem_of_getElem? (i := 883) (by decide +kernel), List.mem_of_getElem? (i := 884) (by decide +kernel)⟩, List.mem_of_getElem? (i := 58) (by decide +kernel), w_Member_addBid, ⟨⟨by decide +kernel, by decide +kernel⟩, by decide +kernel⟩⟩
set_option maxHeartbeats 4000000 in
theorem s_Office_bid_0 {rc : Nat → Nat → Int32 → Int32 → Int32 → Int32 → Int32 → am_M → Option ((Int32 ⊕ Nat) × am_M)} {res : Int32 ⊕ Nat} {M' : am_M} (ih_0 : ∀ (r0 : Nat) (x1 : Int32) (x2 : Int32) (x3 : Int32) (x4 : Int32) (s0 : Int32) (M : am_M), rc 0 r0 x1 x2 x3 x4 s0 M = some (res, M') → AW u_Office_bid R_Office_bid 5 30 81 [(0, .ref r0), (1, .int x1), (2, .int x2), (3, .int x3), (4, .int x4)] [.int s0] M (fun r M2 => r = am_rI res ∧ M2 = M')) : ∀ (r0 : Nat) (x1 : Int32) (x2 : Int32) (x3 : Int32) (x4 : Int32) (s0 : Int32) (M : am_M), a_Office_bid_0 rc r0 x1 x2 x3 x4 s0 M = some (res, M') → AW u_Office_bid R_Office_bid 5 30 81 [(0, .ref r0), (1, .int x1), (2, .int x2), (3, .int x3), (4, .int x4)] [.int s0] M (fun r M2 => r = am_rI res ∧ M2 = M') := by
  intro r0 x1 x2 x3 x4 s0 M h
  unfold a_Office_bid_0 at h
  obtain ⟨⟨t81, M81⟩, e_t81, h⟩ := q_bind h
  cases t81 with
  | inr kx =>
    cases h
    exact aw_cSx (As := [.int s0]) (rest := []) d_Office_bid_81 kS_Office_131 ⟨Nat.le_of_ble_eq_true rfl, Nat.le_of_ble_eq_true rfl, Nat.le_of_ble_eq_true rfl, Nat.le_of_ble_eq_true rfl⟩ rfl rfl (Nat.le_of_ble_eq_true rfl) (mt_Office_needState e_t81) rfl ⟨rfl, rfl⟩
  | inl vx =>
    dsimp only [q_try] at h
    refine aw_cS (v := none) (As := [.int s0]) (rest := []) (st' := []) d_Office_bid_81 kS_Office_131 ⟨Nat.le_of_ble_eq_true rfl, Nat.le_of_ble_eq_true rfl, Nat.le_of_ble_eq_true rfl, Nat.le_of_ble_eq_true rfl⟩ rfl rfl (Nat.le_of_ble_eq_true rfl) rfl (mt_Office_needState e_t81) ?_
    refine aw_aload_n d_Office_bid_84 rfl rfl ?_
    obtain ⟨t85, e_t85, h⟩ := q_bind h
    refine aw_gtr d_Office_bid_85 fl_Office_10 (Or.inl ⟨_, rfl⟩) e_t85 ?_
    obtain ⟨t88, e_t88, h⟩ := q_bind h
    refine aw_gtr d_Office_bid_88 fl_Office_102 (Or.inr ⟨_, rfl⟩) e_t88 ?_
    refine aw_iload_n d_Office_bid_91 rfl rfl ?_
    obtain ⟨t92, e_t92, h⟩ := q_bind h
    refine aw_ldr d_Office_bid_92 e_t92 ?_
    refine aw_iload_n d_Office_bid_93 rfl rfl ?_
    refine aw_iload_n d_Office_bid_94 rfl rfl ?_
    refine aw_iload d_Office_bid_95 rfl ?_
    obtain ⟨o97, e_o97, h⟩ := q_bind h
    obtain ⟨⟨t97, M97⟩, e_t97, h⟩ := q_bind h
    dsimp only at h
    refine aw_cV (v := none) (As := [.int x2, .int x3, .int x4]) (rest := []) (st' := []) d_Office_bid_97 kV_Office_197 (q_ob_spec e_o97).1 (q_ob_spec e_o97).2 ⟨Nat.le_of_ble_eq_true rfl, Nat.le_of_ble_eq_true rfl, Nat.le_of_ble_eq_true rfl, Nat.le_of_ble_eq_true rfl⟩ rfl rfl (Nat.le_of_ble_eq_true rfl) rfl (mt_Member_addBid e_t97) ?_
    refine aw_aload_n d_Office_bid_100 rfl rfl ?_
    obtain ⟨t101, e_t101, h⟩ := q_bind h
    refine aw_gtr d_Office_bid_101 fl_Office_46 (Or.inl ⟨_, rfl⟩) e_t101 ?_
    obtain ⟨o104, e_o104, h⟩ := q_bind h
    obtain ⟨⟨t104, M104⟩, e_t104, h⟩ := q_bind h
    dsimp only at h
    refine aw_cV (v := none) (As := []) (rest := []) (st' := []) d_Office_bid_104 kV_Office_181 (q_ob_spec e_o104).1 (q_ob_spec e_o104).2 ⟨Nat.le_of_ble_eq_true rfl, Nat.le_of_ble_eq_true rfl, Nat.le_of_ble_eq_true rfl, Nat.le_of_ble_eq_true rfl⟩ rfl rfl (Nat.le_of_ble_eq_true rfl) rfl (mt_Sharing_forget e_t104) ?_
    refine aw_aload_n d_Office_bid_107 rfl rfl ?_
    obtain ⟨t108, e_t108, h⟩ := q_bind h
    refine aw_gtr d_Office_bid_108 fl_Office_10 (Or.inl ⟨_, rfl⟩) e_t108 ?_
    obtain ⟨t111, e_t111, h⟩ := q_bind h
    refine aw_gtr d_Office_bid_111 fl_Office_102 (Or.inr ⟨_, rfl⟩) e_t111 ?_
    refine aw_iload_n d_Office_bid_114 rfl rfl ?_
    obtain ⟨t115, e_t115, h⟩ := q_bind h
    refine aw_ldr d_Office_bid_115 e_t115 ?_
    obtain ⟨t116, e_t116, h⟩ := q_bind h
    refine aw_gti d_Office_bid_116 fl_Office_194 (Or.inl rfl) e_t116 ?_
    cases h
    exact aw_ireturn d_Office_bid_119 rfl (Nat.le_of_ble_eq_true rfl) (Nat.le_of_ble_eq_true rfl) ⟨rfl, rfl⟩
theorem l_Office_bid {res : Int32 ⊕ Nat} {M' : am_M} : ∀ F : Nat, (∀ (r0 : Nat) (x1 : Int32) (x2 : Int32) (x3 : Int32) (x4 : Int32) (s0 : Int32) (M : am_M), g_Office_bid F 0 r0 x1 x2 x3 x4 s0 M = some (res, M') → AW u_Office_bid R_Office_bid 5 30 81 [(0, .ref r0), (1, .int x1), (2, .int x2), (3, .int x3), (4, .int x4)] [.int s0] M (fun r M2 => r = am_rI res ∧ M2 = M')) := by
  intro F
  induction F with
  | zero => exact fun _ _ _ _ _ _ _  h => (by cases h)
  | succ F ih =>
    have ih0 := ih
    exact s_Office_bid_0 ih0
set_option maxHeartbeats 4000000 in
theorem mt_Office_bid {M : am_M} {a0 : Nat} {a1 : Int32} {a2 : Int32} {a3 : Int32} {a4 : Int32} {res : Int32 ⊕ Nat} {M' : am_M} (h : f_Office_bid M a0 a1 a2 a3 a4 = some (res, M')) : AMet y_Office_bid u_Office_bid R_Office_bid [.ref a0, .int a1, .int a2, .int a3, .int a4] M (fun r M2 => r = am_rI res ∧ M2 = M') := by
  refine am_met (by decide +kernel) w_Office_bid rfl rfl (Nat.le_of_ble_eq_true rfl) ?_
  show AW u_Office_bid R_Office_bid 0 0 0 [(0, .ref a0), (1, .int a1), (2, .int a2), (3, .int a3), (4, .int a4)] [] M (fun r M2 => r = am_rI res ∧ M2 = M')
  have ih_0 := (l_Office_bid (res := res) (M' := M') 1000000000)
  unfold f_Office_bid at h
  unfold e_Office_bid at h
  generalize g_Office_bid 1000000000 = rc at h ih_0
  refine aw_iload_n d_Office_bid_0 rfl rfl ?_
  refine aw_iconst (v := 0) d_Office_bid_1 (by decide) ?_
  refine aw_iconst (v := 3) d_Office_bid_2 (by decide) ?_
  obtain ⟨t3, e_t3, h⟩ := q_bind h
  refine aw_cS (v := (some (.int t3))) (As := [.int a1, .int (0 : Int32), .int (3 : Int32)]) (rest := []) (st' := [.int t3]) d_Office_bid_3 kS_Office_50 ⟨Nat.le_of_ble_eq_true rfl, Nat.le_of_ble_eq_true rfl, Nat.le_of_ble_eq_true rfl, Nat.le_of_ble_eq_true rfl⟩ rfl rfl (Nat.le_of_ble_eq_true rfl) rfl (mt_Office_isWithin e_t3) ?_
  obtain ⟨⟨t6, M6⟩, e_t6, h⟩ := q_bind h
  cases t6 with
  | inr kx =>
    cases h
    exact aw_cSx (As := [.int t3]) (rest := []) d_Office_bid_6 kS_Office_54 ⟨Nat.le_of_ble_eq_true rfl, Nat.le_of_ble_eq_true rfl, Nat.le_of_ble_eq_true rfl, Nat.le_of_ble_eq_true rfl⟩ rfl rfl (Nat.le_of_ble_eq_true rfl) (mt_Office_needArgument e_t6) rfl ⟨rfl, rfl⟩
  | inl vx =>
    dsimp only [q_try] at h
    refine aw_cS (v := none) (As := [.int t3]) (rest := []) (st' := []) d_Office_bid_6 kS_Office_54 ⟨Nat.le_of_ble_eq_true rfl, Nat.le_of_ble_eq_true rfl, Nat.le_of_ble_eq_true rfl, Nat.le_of_ble_eq_true rfl⟩ rfl rfl (Nat.le_of_ble_eq_true rfl) rfl (mt_Office_needArgument e_t6) ?_
    refine aw_iload_n d_Office_bid_9 rfl rfl ?_
    refine aw_iconst (v := 0) d_Office_bid_10 (by decide) ?_
    refine aw_iconst (v := 2) d_Office_bid_11 (by decide) ?_
    obtain ⟨t12, e_t12, h⟩ := q_bind h
    refine aw_cS (v := (some (.int t12))) (As := [.int a2, .int (0 : Int32), .int (2 : Int32)]) (rest := []) (st' := [.int t12]) d_Office_bid_12 kS_Office_50 ⟨Nat.le_of_ble_eq_true rfl, Nat.le_of_ble_eq_true rfl, Nat.le_of_ble_eq_true rfl, Nat.le_of_ble_eq_true rfl⟩ rfl rfl (Nat.le_of_ble_eq_true rfl) rfl (mt_Office_isWithin e_t12) ?_
    obtain ⟨⟨t15, M15⟩, e_t15, h⟩ := q_bind h
    cases t15 with
    | inr kx =>
      cases h
      exact aw_cSx (As := [.int t12]) (rest := []) d_Office_bid_15 kS_Office_54 ⟨Nat.le_of_ble_eq_true rfl, Nat.le_of_ble_eq_true rfl, Nat.le_of_ble_eq_true rfl, Nat.le_of_ble_eq_true rfl⟩ rfl rfl (Nat.le_of_ble_eq_true rfl) (mt_Office_needArgument e_t15) rfl ⟨rfl, rfl⟩
    | inl vx =>
      dsimp only [q_try] at h
      refine aw_cS (v := none) (As := [.int t12]) (rest := []) (st' := []) d_Office_bid_15 kS_Office_54 ⟨Nat.le_of_ble_eq_true rfl, Nat.le_of_ble_eq_true rfl, Nat.le_of_ble_eq_true rfl, Nat.le_of_ble_eq_true rfl⟩ rfl rfl (Nat.le_of_ble_eq_true rfl) rfl (mt_Office_needArgument e_t15) ?_
      refine aw_iload_n d_Office_bid_18 rfl rfl ?_
      refine aw_iconst (v := 0) d_Office_bid_19 (by decide) ?_
      refine aw_iload_n d_Office_bid_20 rfl rfl ?_
      obtain ⟨t21, e_t21, h⟩ := q_bind h
      refine aw_cS (v := (some (.int t21))) (As := [.int a2]) (rest := [.int (0 : Int32), .int a3]) (st' := [.int t21, .int (0 : Int32), .int a3]) d_Office_bid_21 kS_Office_191 ⟨Nat.le_of_ble_eq_true rfl, Nat.le_of_ble_eq_true rfl, Nat.le_of_ble_eq_true rfl, Nat.le_of_ble_eq_true rfl⟩ rfl rfl (Nat.le_of_ble_eq_true rfl) rfl (mt_Office_greatestArgument e_t21) ?_
      obtain ⟨t24, e_t24, h⟩ := q_bind h
      refine aw_cS (v := (some (.int t24))) (As := [.int a3, .int (0 : Int32), .int t21]) (rest := []) (st' := [.int t24]) d_Office_bid_24 kS_Office_50 ⟨Nat.le_of_ble_eq_true rfl, Nat.le_of_ble_eq_true rfl, Nat.le_of_ble_eq_true rfl, Nat.le_of_ble_eq_true rfl⟩ rfl rfl (Nat.le_of_ble_eq_true rfl) rfl (mt_Office_isWithin e_t24) ?_
      obtain ⟨⟨t27, M27⟩, e_t27, h⟩ := q_bind h
      cases t27 with
      | inr kx =>
        cases h
        exact aw_cSx (As := [.int t24]) (rest := []) d_Office_bid_27 kS_Office_54 ⟨Nat.le_of_ble_eq_true rfl, Nat.le_of_ble_eq_true rfl, Nat.le_of_ble_eq_true rfl, Nat.le_of_ble_eq_true rfl⟩ rfl rfl (Nat.le_of_ble_eq_true rfl) (mt_Office_needArgument e_t27) rfl ⟨rfl, rfl⟩
      | inl vx =>
        dsimp only [q_try] at h
        refine aw_cS (v := none) (As := [.int t24]) (rest := []) (st' := []) d_Office_bid_27 kS_Office_54 ⟨Nat.le_of_ble_eq_true rfl, Nat.le_of_ble_eq_true rfl, Nat.le_of_ble_eq_true rfl, Nat.le_of_ble_eq_true rfl⟩ rfl rfl (Nat.le_of_ble_eq_true rfl) rfl (mt_Office_needArgument e_t27) ?_
        refine aw_iload d_Office_bid_30 rfl ?_
        refine aw_sipush (v := -1000) d_Office_bid_32 (by decide) ?_
        refine aw_sipush (v := 1000) d_Office_bid_35 (by decide) ?_
        obtain ⟨t38, e_t38, h⟩ := q_bind h
        refine aw_cS (v := (some (.int t38))) (As := [.int a4, .int (-1000 : Int32), .int (1000 : Int32)]) (rest := []) (st' := [.int t38]) d_Office_bid_38 kS_Office_50 ⟨Nat.le_of_ble_eq_true rfl, Nat.le_of_ble_eq_true rfl, Nat.le_of_ble_eq_true rfl, Nat.le_of_ble_eq_true rfl⟩ rfl rfl (Nat.le_of_ble_eq_true rfl) rfl (mt_Office_isWithin e_t38) ?_
        obtain ⟨⟨t41, M41⟩, e_t41, h⟩ := q_bind h
        cases t41 with
        | inr kx =>
          cases h
          exact aw_cSx (As := [.int t38]) (rest := []) d_Office_bid_41 kS_Office_54 ⟨Nat.le_of_ble_eq_true rfl, Nat.le_of_ble_eq_true rfl, Nat.le_of_ble_eq_true rfl, Nat.le_of_ble_eq_true rfl⟩ rfl rfl (Nat.le_of_ble_eq_true rfl) (mt_Office_needArgument e_t41) rfl ⟨rfl, rfl⟩
        | inl vx =>
          dsimp only [q_try] at h
          refine aw_cS (v := none) (As := [.int t38]) (rest := []) (st' := []) d_Office_bid_41 kS_Office_54 ⟨Nat.le_of_ble_eq_true rfl, Nat.le_of_ble_eq_true rfl, Nat.le_of_ble_eq_true rfl, Nat.le_of_ble_eq_true rfl⟩ rfl rfl (Nat.le_of_ble_eq_true rfl) rfl (mt_Office_needArgument e_t41) ?_
          refine aw_aload_n d_Office_bid_44 rfl rfl ?_
          obtain ⟨t45, e_t45, h⟩ := q_bind h
          refine aw_gtr d_Office_bid_45 fl_Office_10 (Or.inl ⟨_, rfl⟩) e_t45 ?_
          obtain ⟨t48, e_t48, h⟩ := q_bind h
          refine aw_gtr d_Office_bid_48 fl_Office_102 (Or.inr ⟨_, rfl⟩) e_t48 ?_
          refine aw_iload_n d_Office_bid_51 rfl rfl ?_
          obtain ⟨t52, e_t52, h⟩ := q_bind h
          refine aw_ldr d_Office_bid_52 e_t52 ?_
          obtain ⟨t53, e_t53, h⟩ := q_bind h
          refine aw_gti d_Office_bid_53 fl_Office_111 (Or.inr rfl) e_t53 ?_
          obtain ⟨⟨t56, M56⟩, e_t56, h⟩ := q_bind h
          cases t56 with
          | inr kx =>
            cases h
            exact aw_cSx (As := [.int t53]) (rest := []) d_Office_bid_56 kS_Office_112 ⟨Nat.le_of_ble_eq_true rfl, Nat.le_of_ble_eq_true rfl, Nat.le_of_ble_eq_true rfl, Nat.le_of_ble_eq_true rfl⟩ rfl rfl (Nat.le_of_ble_eq_true rfl) (mt_Office_needElement e_t56) rfl ⟨rfl, rfl⟩
          | inl vx =>
            dsimp only [q_try] at h
            refine aw_cS (v := none) (As := [.int t53]) (rest := []) (st' := []) d_Office_bid_56 kS_Office_112 ⟨Nat.le_of_ble_eq_true rfl, Nat.le_of_ble_eq_true rfl, Nat.le_of_ble_eq_true rfl, Nat.le_of_ble_eq_true rfl⟩ rfl rfl (Nat.le_of_ble_eq_true rfl) rfl (mt_Office_needElement e_t56) ?_
            refine aw_aload_n d_Office_bid_59 rfl rfl ?_
            obtain ⟨t60, e_t60, h⟩ := q_bind h
            refine aw_gtr d_Office_bid_60 fl_Office_10 (Or.inl ⟨_, rfl⟩) e_t60 ?_
            obtain ⟨t63, e_t63, h⟩ := q_bind h
            refine aw_gtr d_Office_bid_63 fl_Office_102 (Or.inr ⟨_, rfl⟩) e_t63 ?_
            refine aw_iload_n d_Office_bid_66 rfl rfl ?_
            obtain ⟨t67, e_t67, h⟩ := q_bind h
            refine aw_ldr d_Office_bid_67 e_t67 ?_
            obtain ⟨t68, e_t68, h⟩ := q_bind h
            refine aw_gti d_Office_bid_68 fl_Office_194 (Or.inl rfl) e_t68 ?_
            refine aw_bipush (v := 6) d_Office_bid_71 (by decide) ?_
            refine aw_icmp_ge (tgt := 80) d_Office_bid_73 (by decide) (fun hc => ?_) (fun hc => ?_)
            · rw [if_pos hc] at h
              refine aw_iconst (v := 0) d_Office_bid_80 (by decide) ?_
              exact aw_pick [0, 1, 2, 3, 4] rfl (ih_0 _ _ _ _ _ _ _ h)
            · rw [if_neg hc] at h
              refine aw_iconst (v := 1) d_Office_bid_76 (by decide) ?_
              refine aw_goto (tgt := 81) d_Office_bid_77 (by decide) ?_
              exact aw_pick [0, 1, 2, 3, 4] rfl (ih_0 _ _ _ _ _ _ _ h)
def y_Office_owner : MethodName := ⟨"CrewOffice", "owner", "(I)I"⟩
def u_Office_owner : am_U := ("CrewOffice", "owner", prog_1_method_20_code, 3, (some .int), [])
def R_Office_owner : Room := { frames := 9, cells := 1, slots := 6, locals := 220 }
theorem d_Office_owner_0 : decode u_Office_owner.2.2.1 0 = .ok (.aload_n 0, 1) := by decide +kernel
theorem d_Office_owner_1 : decode u_Office_owner.2.2.1 1 = .ok (.iload_n 1, 1) := by decide +kernel
theorem d_Office_owner_2 : decode u_Office_owner.2.2.1 2 = .ok (.invokevirtual 171, 3) := by decide +kernel
theorem d_Office_owner_5 : decode u_Office_owner.2.2.1 5 = .ok (.invokestatic 112, 3) := by decide +kernel
theorem d_Office_owner_8 : decode u_Office_owner.2.2.1 8 = .ok (.aload_n 0, 1) := by decide +kernel
theorem d_Office_owner_9 : decode u_Office_owner.2.2.1 9 = .ok (.getfield 37, 3) := by decide +kernel
theorem d_Office_owner_12 : decode u_Office_owner.2.2.1 12 = .ok (.iload_n 1, 1) := by decide +kernel
theorem d_Office_owner_13 : decode u_Office_owner.2.2.1 13 = .ok (.invokevirtual 188, 3) := by decide +kernel
theorem d_Office_owner_16 : decode u_Office_owner.2.2.1 16 = .ok (.istore_n 2, 1) := by decide +kernel
theorem d_Office_owner_17 : decode u_Office_owner.2.2.1 17 = .ok (.iload_n 2, 1) := by decide +kernel
theorem d_Office_owner_18 : decode u_Office_owner.2.2.1 18 = .ok (.iconst (-1), 1) := by decide +kernel
theorem d_Office_owner_19 : decode u_Office_owner.2.2.1 19 = .ok (.if_icmp .ne 7, 3) := by decide +kernel
theorem d_Office_owner_22 : decode u_Office_owner.2.2.1 22 = .ok (.iconst (-1), 1) := by decide +kernel
theorem d_Office_owner_23 : decode u_Office_owner.2.2.1 23 = .ok (.goto 11, 3) := by decide +kernel
theorem d_Office_owner_26 : decode u_Office_owner.2.2.1 26 = .ok (.aload_n 0, 1) := by decide +kernel
theorem d_Office_owner_27 : decode u_Office_owner.2.2.1 27 = .ok (.getfield 46, 3) := by decide +kernel
theorem d_Office_owner_30 : decode u_Office_owner.2.2.1 30 = .ok (.iload_n 2, 1) := by decide +kernel
theorem d_Office_owner_31 : decode u_Office_owner.2.2.1 31 = .ok (.invokevirtual 204, 3) := by decide +kernel
theorem d_Office_owner_34 : decode u_Office_owner.2.2.1 34 = .ok (.ireturn, 1) := by decide +kernel
theorem w_Office_owner : am_code y_Office_owner u_Office_owner ∈ am_ws := am_mem (List.mem_of_getElem? (i := 960) (by decide +kernel)) rfl
def e_Office_owner (M : am_M) (a0 : Nat) (a1 : Int32) : Option ((Int32 ⊕ Nat) × am_M) := (q_ob M a0 9).bind (fun o2 => (f_Office_isListed M a0 a1).bind (fun t2 => (f_Office_needElement M t2).bind (fun p5 => q_try p5 (fun _ M5 => (q_gtr M5 a0 9 3).bind (fun t9 => (q_ob M5 t9 7).bind (fun o13 => (f_Choice_placeOf M5 t9 a1).bind (fun t13 => if t13 = (-1 : Int32) then (some (.inl (-1 : Int32), M5)) else ((q_gtr M5 a0 9 4).bind (fun t27 => (q_ob M5 t27 8).bind (fun o31 => (f_Sharing_holderOf M5 t27 t13).bind (fun t31 => some (.inl t31, M5))))))))))))
def f_Office_owner (M : am_M) (a0 : Nat) (a1 : Int32) : Option ((Int32 ⊕ Nat) × am_M) := e_Office_owner M a0 a1
theorem kV_Office_204 : am_kV "CrewOffice" 204 8 y_Sharing_holderOf u_Sharing_holderOf 1 := ⟨List.mem_of_getElem? (i := 961) (by decide +kernel), ⟨List.mem_of_getElem? (i := 962) (by decide +kernel), List.mem_of_getElem? (i := 963) (by decide +kernel)⟩, List.mem_of_getElem? (i := 64) (by decide +kernel), w_Sharing_holderOf, ⟨⟨by decide +kernel, by decide +kernel⟩, by decide +kernel⟩⟩
set_option maxHeartbeats 4000000 in
theorem mt_Office_owner {M : am_M} {a0 : Nat} {a1 : Int32} {res : Int32 ⊕ Nat} {M' : am_M} (h : f_Office_owner M a0 a1 = some (res, M')) : AMet y_Office_owner u_Office_owner R_Office_owner [.ref a0, .int a1] M (fun r M2 => r = am_rI res ∧ M2 = M') := by
  refine am_met (by decide +kernel) w_Office_owner rfl rfl (Nat.le_of_ble_eq_true rfl) ?_
  show AW u_Office_owner R_Office_owner 0 0 0 [(0, .ref a0), (1, .int a1)] [] M (fun r M2 => r = am_rI res ∧ M2 = M')
  unfold f_Office_owner at h
  unfold e_Office_owner at h
  refine aw_aload_n d_Office_owner_0 rfl rfl ?_
  refine aw_iload_n d_Office_owner_1 rfl rfl ?_
  obtain ⟨o2, e_o2, h⟩ := q_bind h
  obtain ⟨t2, e_t2, h⟩ := q_bind h
  refine aw_cV (v := (some (.int t2))) (As := [.int a1]) (rest := []) (st' := [.int t2]) d_Office_owner_2 kV_Office_171 (q_ob_spec e_o2).1 (q_ob_spec e_o2).2 ⟨Nat.le_of_ble_eq_true rfl, Nat.le_of_ble_eq_true rfl, Nat.le_of_ble_eq_true rfl, Nat.le_of_ble_eq_true rfl⟩ rfl rfl (Nat.le_of_ble_eq_true rfl) rfl (mt_Office_isListed e_t2) ?_
  obtain ⟨⟨t5, M5⟩, e_t5, h⟩ := q_bind h
  cases t5 with
  | inr kx =>
    cases h
    exact aw_cSx (As := [.int t2]) (rest := []) d_Office_owner_5 kS_Office_112 ⟨Nat.le_of_ble_eq_true rfl, Nat.le_of_ble_eq_true rfl, Nat.le_of_ble_eq_true rfl, Nat.le_of_ble_eq_true rfl⟩ rfl rfl (Nat.le_of_ble_eq_true rfl) (mt_Office_needElement e_t5) rfl ⟨rfl, rfl⟩
  | inl vx =>
    dsimp only [q_try] at h
    refine aw_cS (v := none) (As := [.int t2]) (rest := []) (st' := []) d_Office_owner_5 kS_Office_112 ⟨Nat.le_of_ble_eq_true rfl, Nat.le_of_ble_eq_true rfl, Nat.le_of_ble_eq_true rfl, Nat.le_of_ble_eq_true rfl⟩ rfl rfl (Nat.le_of_ble_eq_true rfl) rfl (mt_Office_needElement e_t5) ?_
    refine aw_aload_n d_Office_owner_8 rfl rfl ?_
    obtain ⟨t9, e_t9, h⟩ := q_bind h
    refine aw_gtr d_Office_owner_9 fl_Office_37 (Or.inl ⟨_, rfl⟩) e_t9 ?_
    refine aw_iload_n d_Office_owner_12 rfl rfl ?_
    obtain ⟨o13, e_o13, h⟩ := q_bind h
    obtain ⟨t13, e_t13, h⟩ := q_bind h
    refine aw_cV (v := (some (.int t13))) (As := [.int a1]) (rest := []) (st' := [.int t13]) d_Office_owner_13 kV_Office_188 (q_ob_spec e_o13).1 (q_ob_spec e_o13).2 ⟨Nat.le_of_ble_eq_true rfl, Nat.le_of_ble_eq_true rfl, Nat.le_of_ble_eq_true rfl, Nat.le_of_ble_eq_true rfl⟩ rfl rfl (Nat.le_of_ble_eq_true rfl) rfl (mt_Choice_placeOf e_t13) ?_
    refine aw_istore_n (ls' := [(2, .int _), (0, .ref _), (1, .int _)]) d_Office_owner_16 rfl (Nat.le_of_ble_eq_true rfl) rfl ?_
    refine aw_iload_n d_Office_owner_17 rfl rfl ?_
    refine aw_iconst (v := -1) d_Office_owner_18 (by decide) ?_
    refine aw_icmp_ne (tgt := 26) d_Office_owner_19 (by decide) (fun hc => ?_) (fun hc => ?_)
    · rw [if_neg hc] at h
      refine aw_aload_n d_Office_owner_26 rfl rfl ?_
      obtain ⟨t27, e_t27, h⟩ := q_bind h
      refine aw_gtr d_Office_owner_27 fl_Office_46 (Or.inl ⟨_, rfl⟩) e_t27 ?_
      refine aw_iload_n d_Office_owner_30 rfl rfl ?_
      obtain ⟨o31, e_o31, h⟩ := q_bind h
      obtain ⟨t31, e_t31, h⟩ := q_bind h
      refine aw_cV (v := (some (.int t31))) (As := [.int t13]) (rest := []) (st' := [.int t31]) d_Office_owner_31 kV_Office_204 (q_ob_spec e_o31).1 (q_ob_spec e_o31).2 ⟨Nat.le_of_ble_eq_true rfl, Nat.le_of_ble_eq_true rfl, Nat.le_of_ble_eq_true rfl, Nat.le_of_ble_eq_true rfl⟩ rfl rfl (Nat.le_of_ble_eq_true rfl) rfl (mt_Sharing_holderOf e_t31) ?_
      cases h
      exact aw_ireturn d_Office_owner_34 rfl (Nat.le_of_ble_eq_true rfl) (Nat.le_of_ble_eq_true rfl) ⟨rfl, rfl⟩
    · rw [if_pos hc] at h
      refine aw_iconst (v := -1) d_Office_owner_22 (by decide) ?_
      refine aw_goto (tgt := 34) d_Office_owner_23 (by decide) ?_
      cases h
      exact aw_ireturn d_Office_owner_34 rfl (Nat.le_of_ble_eq_true rfl) (Nat.le_of_ble_eq_true rfl) ⟨rfl, rfl⟩
def y_Office_look : MethodName := ⟨"CrewOffice", "look", "(I)I"⟩
def u_Office_look : am_U := ("CrewOffice", "look", prog_1_method_23_code, 2, (some .int), [])
def R_Office_look : Room := { frames := 9, cells := 1, slots := 6, locals := 220 }
theorem d_Office_look_0 : decode u_Office_look.2.2.1 0 = .ok (.iload_n 1, 1) := by decide +kernel
theorem d_Office_look_1 : decode u_Office_look.2.2.1 1 = .ok (.iconst 0, 1) := by decide +kernel
theorem d_Office_look_2 : decode u_Office_look.2.2.1 2 = .ok (.iconst 5, 1) := by decide +kernel
theorem d_Office_look_3 : decode u_Office_look.2.2.1 3 = .ok (.invokestatic 50, 3) := by decide +kernel
theorem d_Office_look_6 : decode u_Office_look.2.2.1 6 = .ok (.invokestatic 54, 3) := by decide +kernel
theorem d_Office_look_9 : decode u_Office_look.2.2.1 9 = .ok (.iload_n 1, 1) := by decide +kernel
theorem d_Office_look_10 : decode u_Office_look.2.2.1 10 = .ok (.tableswitch 80 0 4 #[34, 45, 53, 64, 72], 34) := by decide +kernel
theorem d_Office_look_44 : decode u_Office_look.2.2.1 44 = .ok (.aload_n 0, 1) := by decide +kernel
theorem d_Office_look_45 : decode u_Office_look.2.2.1 45 = .ok (.getfield 10, 3) := by decide +kernel
theorem d_Office_look_48 : decode u_Office_look.2.2.1 48 = .ok (.invokevirtual 217, 3) := by decide +kernel
theorem d_Office_look_51 : decode u_Office_look.2.2.1 51 = .ok (.invokestatic 220, 3) := by decide +kernel
theorem d_Office_look_54 : decode u_Office_look.2.2.1 54 = .ok (.ireturn, 1) := by decide +kernel
theorem d_Office_look_55 : decode u_Office_look.2.2.1 55 = .ok (.aload_n 0, 1) := by decide +kernel
theorem d_Office_look_56 : decode u_Office_look.2.2.1 56 = .ok (.getfield 10, 3) := by decide +kernel
theorem d_Office_look_59 : decode u_Office_look.2.2.1 59 = .ok (.invokevirtual 225, 3) := by decide +kernel
theorem d_Office_look_62 : decode u_Office_look.2.2.1 62 = .ok (.ireturn, 1) := by decide +kernel
theorem d_Office_look_63 : decode u_Office_look.2.2.1 63 = .ok (.aload_n 0, 1) := by decide +kernel
theorem d_Office_look_64 : decode u_Office_look.2.2.1 64 = .ok (.getfield 21, 3) := by decide +kernel
theorem d_Office_look_67 : decode u_Office_look.2.2.1 67 = .ok (.getfield 122, 3) := by decide +kernel
theorem d_Office_look_70 : decode u_Office_look.2.2.1 70 = .ok (.getfield 126, 3) := by decide +kernel
theorem d_Office_look_73 : decode u_Office_look.2.2.1 73 = .ok (.ireturn, 1) := by decide +kernel
theorem d_Office_look_74 : decode u_Office_look.2.2.1 74 = .ok (.aload_n 0, 1) := by decide +kernel
theorem d_Office_look_75 : decode u_Office_look.2.2.1 75 = .ok (.getfield 28, 3) := by decide +kernel
theorem d_Office_look_78 : decode u_Office_look.2.2.1 78 = .ok (.getfield 168, 3) := by decide +kernel
theorem d_Office_look_81 : decode u_Office_look.2.2.1 81 = .ok (.ireturn, 1) := by decide +kernel
theorem d_Office_look_82 : decode u_Office_look.2.2.1 82 = .ok (.aload_n 0, 1) := by decide +kernel
theorem d_Office_look_83 : decode u_Office_look.2.2.1 83 = .ok (.getfield 37, 3) := by decide +kernel
theorem d_Office_look_86 : decode u_Office_look.2.2.1 86 = .ok (.getfield 200, 3) := by decide +kernel
theorem d_Office_look_89 : decode u_Office_look.2.2.1 89 = .ok (.ireturn, 1) := by decide +kernel
theorem d_Office_look_90 : decode u_Office_look.2.2.1 90 = .ok (.aload_n 0, 1) := by decide +kernel
theorem d_Office_look_91 : decode u_Office_look.2.2.1 91 = .ok (.getfield 46, 3) := by decide +kernel
theorem d_Office_look_94 : decode u_Office_look.2.2.1 94 = .ok (.invokevirtual 228, 3) := by decide +kernel
theorem d_Office_look_97 : decode u_Office_look.2.2.1 97 = .ok (.ireturn, 1) := by decide +kernel
theorem w_Office_look : am_code y_Office_look u_Office_look ∈ am_ws := am_mem (List.mem_of_getElem? (i := 987) (by decide +kernel)) rfl
def e_Office_look (M : am_M) (a0 : Nat) (a1 : Int32) : Option ((Int32 ⊕ Nat) × am_M) := (f_Office_isWithin M a1 (0 : Int32) (5 : Int32)).bind (fun t3 => (f_Office_needArgument M t3).bind (fun p6 => q_try p6 (fun _ M6 => if a1 = (0 : Int32) then ((q_gtr M6 a0 9 0).bind (fun t45 => (q_ob M6 t45 3).bind (fun o48 => (f_Plan_flightsThere M6 t45).bind (fun t48 => (f_Integer_bitCount M6 t48).bind (fun t51 => some (.inl t51, M6)))))) else if a1 = (1 : Int32) then ((q_gtr M6 a0 9 0).bind (fun t56 => (q_ob M6 t56 3).bind (fun o59 => (f_Plan_countMembers M6 t56).bind (fun t59 => some (.inl t59, M6))))) else if a1 = (2 : Int32) then ((q_gtr M6 a0 9 1).bind (fun t64 => (q_gtr M6 t64 5 1).bind (fun t67 => (q_gti M6 t67 4 1).bind (fun t70 => some (.inl t70, M6))))) else if a1 = (3 : Int32) then ((q_gtr M6 a0 9 2).bind (fun t75 => (q_gti M6 t75 6 3).bind (fun t78 => some (.inl t78, M6)))) else if a1 = (4 : Int32) then ((q_gtr M6 a0 9 3).bind (fun t83 => (q_gti M6 t83 7 3).bind (fun t86 => some (.inl t86, M6)))) else ((q_gtr M6 a0 9 4).bind (fun t91 => (q_ob M6 t91 8).bind (fun o94 => (f_Sharing_countShared M6 t91).bind (fun t94 => some (.inl t94, M6))))))))
def f_Office_look (M : am_M) (a0 : Nat) (a1 : Int32) : Option ((Int32 ⊕ Nat) × am_M) := e_Office_look M a0 a1
theorem fl_Office_200 : am_fl "CrewOffice" 200 7 3 := ⟨by decide, by decide, List.mem_of_getElem? (i := 377) (by decide +kernel)⟩
theorem kV_Office_217 : am_kV "CrewOffice" 217 3 y_Plan_flightsThere u_Plan_flightsThere 0 := ⟨List.mem_of_getElem? (i := 988) (by decide +kernel), ⟨List.mem_of_getElem? (i := 601) (by decide +kernel), List.mem_of_getElem? (i := 602) (by decide +kernel)⟩, List.mem_of_getElem? (i := 55) (by decide +kernel), w_Plan_flightsThere, ⟨⟨by decide +kernel, by decide +kernel⟩, by decide +kernel⟩⟩
theorem kS_Office_220 : am_kS "CrewOffice" 220 y_Integer_bitCount u_Integer_bitCount 1 := ⟨List.mem_of_getElem? (i := 989) (by decide +kernel), List.mem_of_getElem? (i := 622) (by decide +kernel), List.mem_of_getElem? (i := 74) (by decide +kernel), w_Integer_bitCount, ⟨⟨by decide +kernel, by decide +kernel⟩, by decide +kernel⟩⟩
theorem kV_Office_225 : am_kV "CrewOffice" 225 3 y_Plan_countMembers u_Plan_countMembers 0 := ⟨List.mem_of_getElem? (i := 990) (by decide +kernel), ⟨List.mem_of_getElem? (i := 991) (by decide +kernel), List.mem_of_getElem? (i := 992) (by decide +kernel)⟩, List.mem_of_getElem? (i := 55) (by decide +kernel), w_Plan_countMembers, ⟨⟨by decide +kernel, by decide +kernel⟩, by decide +kernel⟩⟩
theorem kV_Office_228 : am_kV "CrewOffice" 228 8 y_Sharing_countShared u_Sharing_countShared 0 := ⟨List.mem_of_getElem? (i := 994) (by decide +kernel), ⟨List.mem_of_getElem? (i := 995) (by decide +kernel), List.mem_of_getElem? (i := 996) (by decide +kernel)⟩, List.mem_of_getElem? (i := 64) (by decide +kernel), w_Sharing_countShared, ⟨⟨by decide +kernel, by decide +kernel⟩, by decide +kernel⟩⟩
set_option maxHeartbeats 4000000 in
theorem mt_Office_look {M : am_M} {a0 : Nat} {a1 : Int32} {res : Int32 ⊕ Nat} {M' : am_M} (h : f_Office_look M a0 a1 = some (res, M')) : AMet y_Office_look u_Office_look R_Office_look [.ref a0, .int a1] M (fun r M2 => r = am_rI res ∧ M2 = M') := by
  refine am_met (by decide +kernel) w_Office_look rfl rfl (Nat.le_of_ble_eq_true rfl) ?_
  show AW u_Office_look R_Office_look 0 0 0 [(0, .ref a0), (1, .int a1)] [] M (fun r M2 => r = am_rI res ∧ M2 = M')
  unfold f_Office_look at h
  unfold e_Office_look at h
  refine aw_iload_n d_Office_look_0 rfl rfl ?_
  refine aw_iconst (v := 0) d_Office_look_1 (by decide) ?_
  refine aw_iconst (v := 5) d_Office_look_2 (by decide) ?_
  obtain ⟨t3, e_t3, h⟩ := q_bind h
  refine aw_cS (v := (some (.int t3))) (As := [.int a1, .int (0 : Int32), .int (5 : Int32)]) (rest := []) (st' := [.int t3]) d_Office_look_3 kS_Office_50 ⟨Nat.le_of_ble_eq_true rfl, Nat.le_of_ble_eq_true rfl, Nat.le_of_ble_eq_true rfl, Nat.le_of_ble_eq_true rfl⟩ rfl rfl (Nat.le_of_ble_eq_true rfl) rfl (mt_Office_isWithin e_t3) ?_
  obtain ⟨⟨t6, M6⟩, e_t6, h⟩ := q_bind h
  cases t6 with
  | inr kx =>
    cases h
    exact aw_cSx (As := [.int t3]) (rest := []) d_Office_look_6 kS_Office_54 ⟨Nat.le_of_ble_eq_true rfl, Nat.le_of_ble_eq_true rfl, Nat.le_of_ble_eq_true rfl, Nat.le_of_ble_eq_true rfl⟩ rfl rfl (Nat.le_of_ble_eq_true rfl) (mt_Office_needArgument e_t6) rfl ⟨rfl, rfl⟩
  | inl vx =>
    dsimp only [q_try] at h
    refine aw_cS (v := none) (As := [.int t3]) (rest := []) (st' := []) d_Office_look_6 kS_Office_54 ⟨Nat.le_of_ble_eq_true rfl, Nat.le_of_ble_eq_true rfl, Nat.le_of_ble_eq_true rfl, Nat.le_of_ble_eq_true rfl⟩ rfl rfl (Nat.le_of_ble_eq_true rfl) rfl (mt_Office_needArgument e_t6) ?_
    refine aw_iload_n d_Office_look_9 rfl rfl ?_
    by_cases c10_0 : a1 = (0 : Int32)
    · rw [if_pos c10_0] at h
      have hx : (a1).toInt = (0 : Int) := by rw [c10_0]; rfl
      refine aw_tableIn (off := 34) (tgt := 44) d_Office_look_10 (by rw [hx]; decide) (by rw [hx]; decide) (by rw [hx]; rfl) (by decide) ?_
      refine aw_aload_n d_Office_look_44 rfl rfl ?_
      obtain ⟨t45, e_t45, h⟩ := q_bind h
      refine aw_gtr d_Office_look_45 fl_Office_10 (Or.inl ⟨_, rfl⟩) e_t45 ?_
      obtain ⟨o48, e_o48, h⟩ := q_bind h
      obtain ⟨t48, e_t48, h⟩ := q_bind h
      refine aw_cV (v := (some (.int t48))) (As := []) (rest := []) (st' := [.int t48]) d_Office_look_48 kV_Office_217 (q_ob_spec e_o48).1 (q_ob_spec e_o48).2 ⟨Nat.le_of_ble_eq_true rfl, Nat.le_of_ble_eq_true rfl, Nat.le_of_ble_eq_true rfl, Nat.le_of_ble_eq_true rfl⟩ rfl rfl (Nat.le_of_ble_eq_true rfl) rfl (mt_Plan_flightsThere e_t48) ?_
      obtain ⟨t51, e_t51, h⟩ := q_bind h
      refine aw_cS (v := (some (.int t51))) (As := [.int t48]) (rest := []) (st' := [.int t51]) d_Office_look_51 kS_Office_220 ⟨Nat.le_of_ble_eq_true rfl, Nat.le_of_ble_eq_true rfl, Nat.le_of_ble_eq_true rfl, Nat.le_of_ble_eq_true rfl⟩ rfl rfl (Nat.le_of_ble_eq_true rfl) rfl (mt_Integer_bitCount e_t51) ?_
      cases h
      exact aw_ireturn d_Office_look_54 rfl (Nat.le_of_ble_eq_true rfl) (Nat.le_of_ble_eq_true rfl) ⟨rfl, rfl⟩
    rw [if_neg c10_0] at h
    by_cases c10_1 : a1 = (1 : Int32)
    · rw [if_pos c10_1] at h
      have hx : (a1).toInt = (1 : Int) := by rw [c10_1]; rfl
      refine aw_tableIn (off := 45) (tgt := 55) d_Office_look_10 (by rw [hx]; decide) (by rw [hx]; decide) (by rw [hx]; rfl) (by decide) ?_
      refine aw_aload_n d_Office_look_55 rfl rfl ?_
      obtain ⟨t56, e_t56, h⟩ := q_bind h
      refine aw_gtr d_Office_look_56 fl_Office_10 (Or.inl ⟨_, rfl⟩) e_t56 ?_
      obtain ⟨o59, e_o59, h⟩ := q_bind h
      obtain ⟨t59, e_t59, h⟩ := q_bind h
      refine aw_cV (v := (some (.int t59))) (As := []) (rest := []) (st' := [.int t59]) d_Office_look_59 kV_Office_225 (q_ob_spec e_o59).1 (q_ob_spec e_o59).2 ⟨Nat.le_of_ble_eq_true rfl, Nat.le_of_ble_eq_true rfl, Nat.le_of_ble_eq_true rfl, Nat.le_of_ble_eq_true rfl⟩ rfl rfl (Nat.le_of_ble_eq_true rfl) rfl (mt_Plan_countMembers e_t59) ?_
      cases h
      exact aw_ireturn d_Office_look_62 rfl (Nat.le_of_ble_eq_true rfl) (Nat.le_of_ble_eq_true rfl) ⟨rfl, rfl⟩
    rw [if_neg c10_1] at h
    by_cases c10_2 : a1 = (2 : Int32)
    · rw [if_pos c10_2] at h
      have hx : (a1).toInt = (2 : Int) := by rw [c10_2]; rfl
      refine aw_tableIn (off := 53) (tgt := 63) d_Office_look_10 (by rw [hx]; decide) (by rw [hx]; decide) (by rw [hx]; rfl) (by decide) ?_
      refine aw_aload_n d_Office_look_63 rfl rfl ?_
      obtain ⟨t64, e_t64, h⟩ := q_bind h
      refine aw_gtr d_Office_look_64 fl_Office_21 (Or.inl ⟨_, rfl⟩) e_t64 ?_
      obtain ⟨t67, e_t67, h⟩ := q_bind h
      refine aw_gtr d_Office_look_67 fl_Office_122 (Or.inl ⟨_, rfl⟩) e_t67 ?_
      obtain ⟨t70, e_t70, h⟩ := q_bind h
      refine aw_gti d_Office_look_70 fl_Office_126 (Or.inl rfl) e_t70 ?_
      cases h
      exact aw_ireturn d_Office_look_73 rfl (Nat.le_of_ble_eq_true rfl) (Nat.le_of_ble_eq_true rfl) ⟨rfl, rfl⟩
    rw [if_neg c10_2] at h
    by_cases c10_3 : a1 = (3 : Int32)
    · rw [if_pos c10_3] at h
      have hx : (a1).toInt = (3 : Int) := by rw [c10_3]; rfl
      refine aw_tableIn (off := 64) (tgt := 74) d_Office_look_10 (by rw [hx]; decide) (by rw [hx]; decide) (by rw [hx]; rfl) (by decide) ?_
      refine aw_aload_n d_Office_look_74 rfl rfl ?_
      obtain ⟨t75, e_t75, h⟩ := q_bind h
      refine aw_gtr d_Office_look_75 fl_Office_28 (Or.inl ⟨_, rfl⟩) e_t75 ?_
      obtain ⟨t78, e_t78, h⟩ := q_bind h
      refine aw_gti d_Office_look_78 fl_Office_168 (Or.inl rfl) e_t78 ?_
      cases h
      exact aw_ireturn d_Office_look_81 rfl (Nat.le_of_ble_eq_true rfl) (Nat.le_of_ble_eq_true rfl) ⟨rfl, rfl⟩
    rw [if_neg c10_3] at h
    by_cases c10_4 : a1 = (4 : Int32)
    · rw [if_pos c10_4] at h
      have hx : (a1).toInt = (4 : Int) := by rw [c10_4]; rfl
      refine aw_tableIn (off := 72) (tgt := 82) d_Office_look_10 (by rw [hx]; decide) (by rw [hx]; decide) (by rw [hx]; rfl) (by decide) ?_
      refine aw_aload_n d_Office_look_82 rfl rfl ?_
      obtain ⟨t83, e_t83, h⟩ := q_bind h
      refine aw_gtr d_Office_look_83 fl_Office_37 (Or.inl ⟨_, rfl⟩) e_t83 ?_
      obtain ⟨t86, e_t86, h⟩ := q_bind h
      refine aw_gti d_Office_look_86 fl_Office_200 (Or.inl rfl) e_t86 ?_
      cases h
      exact aw_ireturn d_Office_look_89 rfl (Nat.le_of_ble_eq_true rfl) (Nat.le_of_ble_eq_true rfl) ⟨rfl, rfl⟩
    rw [if_neg c10_4] at h
    refine aw_tableOut (tgt := 90) d_Office_look_10 (by have z0 := lv_neT c10_0 (a := 0) rfl; have z1 := lv_neT c10_1 (a := 1) rfl; have z2 := lv_neT c10_2 (a := 2) rfl; have z3 := lv_neT c10_3 (a := 3) rfl; have z4 := lv_neT c10_4 (a := 4) rfl; omega) (by decide) ?_
    refine aw_aload_n d_Office_look_90 rfl rfl ?_
    obtain ⟨t91, e_t91, h⟩ := q_bind h
    refine aw_gtr d_Office_look_91 fl_Office_46 (Or.inl ⟨_, rfl⟩) e_t91 ?_
    obtain ⟨o94, e_o94, h⟩ := q_bind h
    obtain ⟨t94, e_t94, h⟩ := q_bind h
    refine aw_cV (v := (some (.int t94))) (As := []) (rest := []) (st' := [.int t94]) d_Office_look_94 kV_Office_228 (q_ob_spec e_o94).1 (q_ob_spec e_o94).2 ⟨Nat.le_of_ble_eq_true rfl, Nat.le_of_ble_eq_true rfl, Nat.le_of_ble_eq_true rfl, Nat.le_of_ble_eq_true rfl⟩ rfl rfl (Nat.le_of_ble_eq_true rfl) rfl (mt_Sharing_countShared e_t94) ?_
    cases h
    exact aw_ireturn d_Office_look_97 rfl (Nat.le_of_ble_eq_true rfl) (Nat.le_of_ble_eq_true rfl) ⟨rfl, rfl⟩
def y_Office_forgetPairings : MethodName := ⟨"CrewOffice", "forgetPairings", "()V"⟩
def u_Office_forgetPairings : am_U := ("CrewOffice", "forgetPairings", prog_1_method_25_code, 1, none, [])
def R_Office_forgetPairings : Room := { frames := 2, cells := 0, slots := 0, locals := 43 }
theorem d_Office_forgetPairings_0 : decode u_Office_forgetPairings.2.2.1 0 = .ok (.aload_n 0, 1) := by decide +kernel
theorem d_Office_forgetPairings_1 : decode u_Office_forgetPairings.2.2.1 1 = .ok (.getfield 28, 3) := by decide +kernel
theorem d_Office_forgetPairings_4 : decode u_Office_forgetPairings.2.2.1 4 = .ok (.invokevirtual 231, 3) := by decide +kernel
theorem d_Office_forgetPairings_7 : decode u_Office_forgetPairings.2.2.1 7 = .ok (.aload_n 0, 1) := by decide +kernel
theorem d_Office_forgetPairings_8 : decode u_Office_forgetPairings.2.2.1 8 = .ok (.getfield 37, 3) := by decide +kernel
theorem d_Office_forgetPairings_11 : decode u_Office_forgetPairings.2.2.1 11 = .ok (.invokevirtual 184, 3) := by decide +kernel
theorem d_Office_forgetPairings_14 : decode u_Office_forgetPairings.2.2.1 14 = .ok (.aload_n 0, 1) := by decide +kernel
theorem d_Office_forgetPairings_15 : decode u_Office_forgetPairings.2.2.1 15 = .ok (.getfield 46, 3) := by decide +kernel
theorem d_Office_forgetPairings_18 : decode u_Office_forgetPairings.2.2.1 18 = .ok (.invokevirtual 181, 3) := by decide +kernel
theorem d_Office_forgetPairings_21 : decode u_Office_forgetPairings.2.2.1 21 = .ok (.return_, 1) := by decide +kernel
theorem w_Office_forgetPairings : am_code y_Office_forgetPairings u_Office_forgetPairings ∈ am_ws := am_mem (List.mem_of_getElem? (i := 456) (by decide +kernel)) rfl
def e_Office_forgetPairings (M : am_M) (a0 : Nat) : Option (Unit × am_M) := (q_gtr M a0 9 2).bind (fun t1 => (q_ob M t1 6).bind (fun o4 => (f_Listing_forget M t1).bind (fun p4 => (q_gtr p4.2 a0 9 3).bind (fun t8 => (q_ob p4.2 t8 7).bind (fun o11 => (f_Choice_forget p4.2 t8).bind (fun p11 => (q_gtr p11.2 a0 9 4).bind (fun t15 => (q_ob p11.2 t15 8).bind (fun o18 => (f_Sharing_forget p11.2 t15).bind (fun p18 => some ((), p18.2))))))))))
def f_Office_forgetPairings (M : am_M) (a0 : Nat) : Option (Unit × am_M) := e_Office_forgetPairings M a0
theorem kV_Office_231 : am_kV "CrewOffice" 231 6 y_Listing_forget u_Listing_forget 0 := ⟨List.mem_of_getElem? (i := 457) (by decide +kernel), ⟨List.mem_of_getElem? (i := 458) (by decide +kernel), List.mem_of_getElem? (i := 459) (by decide +kernel)⟩, List.mem_of_getElem? (i := 62) (by decide +kernel), w_Listing_forget, ⟨⟨by decide +kernel, by decide +kernel⟩, by decide +kernel⟩⟩
set_option maxHeartbeats 4000000 in
theorem mt_Office_forgetPairings {M : am_M} {a0 : Nat} {res : Unit} {M' : am_M} (h : f_Office_forgetPairings M a0 = some (res, M')) : AMet y_Office_forgetPairings u_Office_forgetPairings R_Office_forgetPairings [.ref a0] M (fun r M2 => r = .inl none ∧ M2 = M') := by
  refine am_met (by decide +kernel) w_Office_forgetPairings rfl rfl (Nat.le_of_ble_eq_true rfl) ?_
  show AW u_Office_forgetPairings R_Office_forgetPairings 0 0 0 [(0, .ref a0)] [] M (fun r M2 => r = .inl none ∧ M2 = M')
  unfold f_Office_forgetPairings at h
  unfold e_Office_forgetPairings at h
  refine aw_aload_n d_Office_forgetPairings_0 rfl rfl ?_
  obtain ⟨t1, e_t1, h⟩ := q_bind h
  refine aw_gtr d_Office_forgetPairings_1 fl_Office_28 (Or.inl ⟨_, rfl⟩) e_t1 ?_
  obtain ⟨o4, e_o4, h⟩ := q_bind h
  obtain ⟨⟨t4, M4⟩, e_t4, h⟩ := q_bind h
  dsimp only at h
  refine aw_cV (v := none) (As := []) (rest := []) (st' := []) d_Office_forgetPairings_4 kV_Office_231 (q_ob_spec e_o4).1 (q_ob_spec e_o4).2 ⟨Nat.le_of_ble_eq_true rfl, Nat.le_of_ble_eq_true rfl, Nat.le_of_ble_eq_true rfl, Nat.le_of_ble_eq_true rfl⟩ rfl rfl (Nat.le_of_ble_eq_true rfl) rfl (mt_Listing_forget e_t4) ?_
  refine aw_aload_n d_Office_forgetPairings_7 rfl rfl ?_
  obtain ⟨t8, e_t8, h⟩ := q_bind h
  refine aw_gtr d_Office_forgetPairings_8 fl_Office_37 (Or.inl ⟨_, rfl⟩) e_t8 ?_
  obtain ⟨o11, e_o11, h⟩ := q_bind h
  obtain ⟨⟨t11, M11⟩, e_t11, h⟩ := q_bind h
  dsimp only at h
  refine aw_cV (v := none) (As := []) (rest := []) (st' := []) d_Office_forgetPairings_11 kV_Office_184 (q_ob_spec e_o11).1 (q_ob_spec e_o11).2 ⟨Nat.le_of_ble_eq_true rfl, Nat.le_of_ble_eq_true rfl, Nat.le_of_ble_eq_true rfl, Nat.le_of_ble_eq_true rfl⟩ rfl rfl (Nat.le_of_ble_eq_true rfl) rfl (mt_Choice_forget e_t11) ?_
  refine aw_aload_n d_Office_forgetPairings_14 rfl rfl ?_
  obtain ⟨t15, e_t15, h⟩ := q_bind h
  refine aw_gtr d_Office_forgetPairings_15 fl_Office_46 (Or.inl ⟨_, rfl⟩) e_t15 ?_
  obtain ⟨o18, e_o18, h⟩ := q_bind h
  obtain ⟨⟨t18, M18⟩, e_t18, h⟩ := q_bind h
  dsimp only at h
  refine aw_cV (v := none) (As := []) (rest := []) (st' := []) d_Office_forgetPairings_18 kV_Office_181 (q_ob_spec e_o18).1 (q_ob_spec e_o18).2 ⟨Nat.le_of_ble_eq_true rfl, Nat.le_of_ble_eq_true rfl, Nat.le_of_ble_eq_true rfl, Nat.le_of_ble_eq_true rfl⟩ rfl rfl (Nat.le_of_ble_eq_true rfl) rfl (mt_Sharing_forget e_t18) ?_
  cases h
  exact aw_vreturn d_Office_forgetPairings_21 rfl (Nat.le_of_ble_eq_true rfl) (Nat.le_of_ble_eq_true rfl) ⟨rfl, rfl⟩
def y_Model_loses : MethodName := ⟨"CrewOfficeModel", "loses", "()V"⟩
def u_Model_loses : am_U := ("CrewOfficeModel", "loses", prog_12_method_5_code, 1, none, [])
def R_Model_loses : Room := { frames := 2, cells := 0, slots := 0, locals := 42 }
theorem d_Model_loses_0 : decode u_Model_loses.2.2.1 0 = .ok (.aload_n 0, 1) := by decide +kernel
theorem d_Model_loses_1 : decode u_Model_loses.2.2.1 1 = .ok (.iconst (-1), 1) := by decide +kernel
theorem d_Model_loses_2 : decode u_Model_loses.2.2.1 2 = .ok (.putfield 102, 3) := by decide +kernel
theorem d_Model_loses_5 : decode u_Model_loses.2.2.1 5 = .ok (.aload_n 0, 1) := by decide +kernel
theorem d_Model_loses_6 : decode u_Model_loses.2.2.1 6 = .ok (.invokevirtual 158, 3) := by decide +kernel
theorem d_Model_loses_9 : decode u_Model_loses.2.2.1 9 = .ok (.return_, 1) := by decide +kernel
theorem w_Model_loses : am_code y_Model_loses u_Model_loses ∈ am_ws := am_mem (List.mem_of_getElem? (i := 1188) (by decide +kernel)) rfl
def e_Model_loses (M : am_M) (a0 : Nat) : Option (Unit × am_M) := (q_pti M a0 10 34 (-1 : Int32)).bind (fun M2 => (q_ob M2 a0 10).bind (fun o6 => (f_Model_uncovers M2 a0).bind (fun p6 => some ((), p6.2))))
def f_Model_loses (M : am_M) (a0 : Nat) : Option (Unit × am_M) := e_Model_loses M a0
set_option maxHeartbeats 4000000 in
theorem mt_Model_loses {M : am_M} {a0 : Nat} {res : Unit} {M' : am_M} (h : f_Model_loses M a0 = some (res, M')) : AMet y_Model_loses u_Model_loses R_Model_loses [.ref a0] M (fun r M2 => r = .inl none ∧ M2 = M') := by
  refine am_met (by decide +kernel) w_Model_loses rfl rfl (Nat.le_of_ble_eq_true rfl) ?_
  show AW u_Model_loses R_Model_loses 0 0 0 [(0, .ref a0)] [] M (fun r M2 => r = .inl none ∧ M2 = M')
  unfold f_Model_loses at h
  unfold e_Model_loses at h
  refine aw_aload_n d_Model_loses_0 rfl rfl ?_
  refine aw_iconst (v := -1) d_Model_loses_1 (by decide) ?_
  obtain ⟨M2, e_M2, h⟩ := q_bind h
  refine aw_pti d_Model_loses_2 fl_Model_102 rfl rfl e_M2 ?_
  refine aw_aload_n d_Model_loses_5 rfl rfl ?_
  obtain ⟨o6, e_o6, h⟩ := q_bind h
  obtain ⟨⟨t6, M6⟩, e_t6, h⟩ := q_bind h
  dsimp only at h
  refine aw_cV (v := none) (As := []) (rest := []) (st' := []) d_Model_loses_6 kV_Model_158 (q_ob_spec e_o6).1 (q_ob_spec e_o6).2 ⟨Nat.le_of_ble_eq_true rfl, Nat.le_of_ble_eq_true rfl, Nat.le_of_ble_eq_true rfl, Nat.le_of_ble_eq_true rfl⟩ rfl rfl (Nat.le_of_ble_eq_true rfl) rfl (mt_Model_uncovers e_t6) ?_
  cases h
  exact aw_vreturn d_Model_loses_9 rfl (Nat.le_of_ble_eq_true rfl) (Nat.le_of_ble_eq_true rfl) ⟨rfl, rfl⟩
def y_Model_zone : MethodName := ⟨"CrewOfficeModel", "zone", "(IIII)V"⟩
def u_Model_zone : am_U := ("CrewOfficeModel", "zone", prog_12_method_12_code, 5, none, [])
def R_Model_zone : Room := { frames := 3, cells := 0, slots := 0, locals := 62 }
theorem d_Model_zone_0 : decode u_Model_zone.2.2.1 0 = .ok (.aload_n 0, 1) := by decide +kernel
theorem d_Model_zone_1 : decode u_Model_zone.2.2.1 1 = .ok (.iload_n 1, 1) := by decide +kernel
theorem d_Model_zone_2 : decode u_Model_zone.2.2.1 2 = .ok (.iconst 0, 1) := by decide +kernel
theorem d_Model_zone_3 : decode u_Model_zone.2.2.1 3 = .ok (.iconst 4, 1) := by decide +kernel
theorem d_Model_zone_4 : decode u_Model_zone.2.2.1 4 = .ok (.invokestatic 180, 3) := by decide +kernel
theorem d_Model_zone_7 : decode u_Model_zone.2.2.1 7 = .ok (.ifCond .eq 41, 3) := by decide +kernel
theorem d_Model_zone_10 : decode u_Model_zone.2.2.1 10 = .ok (.iload_n 2, 1) := by decide +kernel
theorem d_Model_zone_11 : decode u_Model_zone.2.2.1 11 = .ok (.sipush (-720), 3) := by decide +kernel
theorem d_Model_zone_14 : decode u_Model_zone.2.2.1 14 = .ok (.sipush 720, 3) := by decide +kernel
theorem d_Model_zone_17 : decode u_Model_zone.2.2.1 17 = .ok (.invokestatic 180, 3) := by decide +kernel
theorem d_Model_zone_20 : decode u_Model_zone.2.2.1 20 = .ok (.ifCond .eq 28, 3) := by decide +kernel
theorem d_Model_zone_23 : decode u_Model_zone.2.2.1 23 = .ok (.iload 4, 2) := by decide +kernel
theorem d_Model_zone_25 : decode u_Model_zone.2.2.1 25 = .ok (.sipush (-720), 3) := by decide +kernel
theorem d_Model_zone_28 : decode u_Model_zone.2.2.1 28 = .ok (.sipush 720, 3) := by decide +kernel
theorem d_Model_zone_31 : decode u_Model_zone.2.2.1 31 = .ok (.invokestatic 180, 3) := by decide +kernel
theorem d_Model_zone_34 : decode u_Model_zone.2.2.1 34 = .ok (.ifCond .eq 14, 3) := by decide +kernel
theorem d_Model_zone_37 : decode u_Model_zone.2.2.1 37 = .ok (.iload_n 3, 1) := by decide +kernel
theorem d_Model_zone_38 : decode u_Model_zone.2.2.1 38 = .ok (.iconst 0, 1) := by decide +kernel
theorem d_Model_zone_39 : decode u_Model_zone.2.2.1 39 = .ok (.sipush 20160, 3) := by decide +kernel
theorem d_Model_zone_42 : decode u_Model_zone.2.2.1 42 = .ok (.invokestatic 180, 3) := by decide +kernel
theorem d_Model_zone_45 : decode u_Model_zone.2.2.1 45 = .ok (.ifCond .ne 7, 3) := by decide +kernel
theorem d_Model_zone_48 : decode u_Model_zone.2.2.1 48 = .ok (.iconst 1, 1) := by decide +kernel
theorem d_Model_zone_49 : decode u_Model_zone.2.2.1 49 = .ok (.goto 4, 3) := by decide +kernel
theorem d_Model_zone_52 : decode u_Model_zone.2.2.1 52 = .ok (.iconst 0, 1) := by decide +kernel
theorem d_Model_zone_53 : decode u_Model_zone.2.2.1 53 = .ok (.iconst 1, 1) := by decide +kernel
theorem d_Model_zone_54 : decode u_Model_zone.2.2.1 54 = .ok (.invokevirtual 184, 3) := by decide +kernel
theorem d_Model_zone_57 : decode u_Model_zone.2.2.1 57 = .ok (.ifCond .eq 4, 3) := by decide +kernel
theorem d_Model_zone_60 : decode u_Model_zone.2.2.1 60 = .ok (.return_, 1) := by decide +kernel
theorem d_Model_zone_61 : decode u_Model_zone.2.2.1 61 = .ok (.aload_n 0, 1) := by decide +kernel
theorem d_Model_zone_62 : decode u_Model_zone.2.2.1 62 = .ok (.getfield 7, 3) := by decide +kernel
theorem d_Model_zone_65 : decode u_Model_zone.2.2.1 65 = .ok (.iload_n 1, 1) := by decide +kernel
theorem d_Model_zone_66 : decode u_Model_zone.2.2.1 66 = .ok (.iload_n 2, 1) := by decide +kernel
theorem d_Model_zone_67 : decode u_Model_zone.2.2.1 67 = .ok (.iastore, 1) := by decide +kernel
theorem d_Model_zone_68 : decode u_Model_zone.2.2.1 68 = .ok (.aload_n 0, 1) := by decide +kernel
theorem d_Model_zone_69 : decode u_Model_zone.2.2.1 69 = .ok (.getfield 13, 3) := by decide +kernel
theorem d_Model_zone_72 : decode u_Model_zone.2.2.1 72 = .ok (.iload_n 1, 1) := by decide +kernel
theorem d_Model_zone_73 : decode u_Model_zone.2.2.1 73 = .ok (.iload_n 3, 1) := by decide +kernel
theorem d_Model_zone_74 : decode u_Model_zone.2.2.1 74 = .ok (.iastore, 1) := by decide +kernel
theorem d_Model_zone_75 : decode u_Model_zone.2.2.1 75 = .ok (.aload_n 0, 1) := by decide +kernel
theorem d_Model_zone_76 : decode u_Model_zone.2.2.1 76 = .ok (.getfield 16, 3) := by decide +kernel
theorem d_Model_zone_79 : decode u_Model_zone.2.2.1 79 = .ok (.iload_n 1, 1) := by decide +kernel
theorem d_Model_zone_80 : decode u_Model_zone.2.2.1 80 = .ok (.iload 4, 2) := by decide +kernel
theorem d_Model_zone_82 : decode u_Model_zone.2.2.1 82 = .ok (.iastore, 1) := by decide +kernel
theorem d_Model_zone_83 : decode u_Model_zone.2.2.1 83 = .ok (.aload_n 0, 1) := by decide +kernel
theorem d_Model_zone_84 : decode u_Model_zone.2.2.1 84 = .ok (.getfield 23, 3) := by decide +kernel
theorem d_Model_zone_87 : decode u_Model_zone.2.2.1 87 = .ok (.iload_n 1, 1) := by decide +kernel
theorem d_Model_zone_88 : decode u_Model_zone.2.2.1 88 = .ok (.iconst 0, 1) := by decide +kernel
theorem d_Model_zone_89 : decode u_Model_zone.2.2.1 89 = .ok (.bastore, 1) := by decide +kernel
theorem d_Model_zone_90 : decode u_Model_zone.2.2.1 90 = .ok (.aload_n 0, 1) := by decide +kernel
theorem d_Model_zone_91 : decode u_Model_zone.2.2.1 91 = .ok (.invokevirtual 188, 3) := by decide +kernel
theorem d_Model_zone_94 : decode u_Model_zone.2.2.1 94 = .ok (.return_, 1) := by decide +kernel
theorem w_Model_zone : am_code y_Model_zone u_Model_zone ∈ am_ws := am_mem (List.mem_of_getElem? (i := 1177) (by decide +kernel)) rfl
def a_Model_zone_0 (rc : Nat → Nat → Int32 → Int32 → Int32 → Int32 → Int32 → Nat → Nat → am_M → Option (Unit × am_M)) (r0 : Nat) (x1 : Int32) (x2 : Int32) (x3 : Int32) (x4 : Int32) (s0 : Int32) (sr0 : Nat) (sr1 : Nat) (M : am_M) : Option (Unit × am_M) := rc 1 r0 x1 x2 x3 x4 (1 : Int32) 0 sr0 M
def a_Model_zone_1 (rc : Nat → Nat → Int32 → Int32 → Int32 → Int32 → Int32 → Nat → Nat → am_M → Option (Unit × am_M)) (r0 : Nat) (x1 : Int32) (x2 : Int32) (x3 : Int32) (x4 : Int32) (s0 : Int32) (sr0 : Nat) (sr1 : Nat) (M : am_M) : Option (Unit × am_M) := (q_ob M sr1 10).bind (fun o54 => (f_Model_fails M sr1 s0 (1 : Int32)).bind (fun p54 => if p54.1 = 0 then ((q_gtr p54.2 r0 10 1).bind (fun t62 => (q_sti p54.2 t62 x1 x2).bind (fun M67 => (q_gtr M67 r0 10 2).bind (fun t69 => (q_sti M67 t69 x1 x3).bind (fun M74 => (q_gtr M74 r0 10 3).bind (fun t76 => (q_sti M74 t76 x1 x4).bind (fun M82 => (q_gtr M82 r0 10 5).bind (fun t84 => (q_stz M82 t84 x1 (0 : Int32)).bind (fun M89 => (q_ob M89 r0 10).bind (fun o91 => (f_Model_loses M89 r0).bind (fun p91 => some ((), p91.2)))))))))))) else (some ((), p54.2))))
def g_Model_zone : Nat → Nat → Nat → Int32 → Int32 → Int32 → Int32 → Int32 → Nat → Nat → am_M → Option (Unit × am_M)
  | 0, _, _, _, _, _, _, _, _, _, _ => none
  | F + 1, 0, r0, x1, x2, x3, x4, s0, sr0, sr1, M => a_Model_zone_0 (g_Model_zone F) r0 x1 x2 x3 x4 s0 sr0 sr1 M
  | F + 1, 1, r0, x1, x2, x3, x4, s0, sr0, sr1, M => a_Model_zone_1 (g_Model_zone F) r0 x1 x2 x3 x4 s0 sr0 sr1 M
  | _ + 1, _ + 2, _, _, _, _, _, _, _, _, _ => none
def e_Model_zone (rc : Nat → Nat → Int32 → Int32 → Int32 → Int32 → Int32 → Nat → Nat → am_M → Option (Unit × am_M)) (M : am_M) (a0 : Nat) (a1 : Int32) (a2 : Int32) (a3 : Int32) (a4 : Int32) : Option (Unit × am_M) := (f_Model_within M a1 (0 : Int32) (4 : Int32)).bind (fun t4 => if t4 = 0 then (rc 0 a0 a1 a2 a3 a4 0 a0 0 M) else ((f_Model_within M a2 (-720 : Int32) (720 : Int32)).bind (fun t17 => if t17 = 0 then (rc 0 a0 a1 a2 a3 a4 0 a0 0 M) else ((f_Model_within M a4 (-720 : Int32) (720 : Int32)).bind (fun t31 => if t31 = 0 then (rc 0 a0 a1 a2 a3 a4 0 a0 0 M) else ((f_Model_within M a3 (0 : Int32) (20160 : Int32)).bind (fun t42 => if t42 = 0 then (rc 0 a0 a1 a2 a3 a4 0 a0 0 M) else (rc 1 a0 a1 a2 a3 a4 (0 : Int32) 0 a0 M))))))))
def f_Model_zone (M : am_M) (a0 : Nat) (a1 : Int32) (a2 : Int32) (a3 : Int32) (a4 : Int32) : Option (Unit × am_M) := e_Model_zone (g_Model_zone 1000000000) M a0 a1 a2 a3 a4
theorem kV_Model_188 : am_kV "CrewOfficeModel" 188 10 y_Model_loses u_Model_loses 0 := ⟨List.mem_of_getElem? (i := 1185) (by decide +kernel), ⟨List.mem_of_getElem? (i := 1187) (by decide +kernel), List.mem_of_getElem? (i := 29) (by decide +kernel)⟩, List.mem_of_getElem? (i := 65) (by decide +kernel), w_Model_loses, ⟨⟨by decide +kernel, by decide +kernel⟩, by decide +kernel⟩⟩
set_option maxHeartbeats 4000000 in
theorem s_Model_zone_0 {rc : Nat → Nat → Int32 → Int32 → Int32 → Int32 → Int32 → Nat → Nat → am_M → Option (Unit × am_M)} {res : Unit} {M' : am_M} (ih_0 : ∀ (r0 : Nat) (x1 : Int32) (x2 : Int32) (x3 : Int32) (x4 : Int32) (s0 : Int32) (sr0 : Nat) (sr1 : Nat) (M : am_M), rc 0 r0 x1 x2 x3 x4 s0 sr0 sr1 M = some (res, M') → AW u_Model_zone R_Model_zone 0 0 48 [(0, .ref r0), (1, .int x1), (2, .int x2), (3, .int x3), (4, .int x4)] [.ref sr0] M (fun r M2 => r = .inl none ∧ M2 = M')) (ih_1 : ∀ (r0 : Nat) (x1 : Int32) (x2 : Int32) (x3 : Int32) (x4 : Int32) (s0 : Int32) (sr0 : Nat) (sr1 : Nat) (M : am_M), rc 1 r0 x1 x2 x3 x4 s0 sr0 sr1 M = some (res, M') → AW u_Model_zone R_Model_zone 0 0 53 [(0, .ref r0), (1, .int x1), (2, .int x2), (3, .int x3), (4, .int x4)] [.int s0, .ref sr1] M (fun r M2 => r = .inl none ∧ M2 = M')) : ∀ (r0 : Nat) (x1 : Int32) (x2 : Int32) (x3 : Int32) (x4 : Int32) (s0 : Int32) (sr0 : Nat) (sr1 : Nat) (M : am_M), a_Model_zone_0 rc r0 x1 x2 x3 x4 s0 sr0 sr1 M = some (res, M') → AW u_Model_zone R_Model_zone 0 0 48 [(0, .ref r0), (1, .int x1), (2, .int x2), (3, .int x3), (4, .int x4)] [.ref sr0] M (fun r M2 => r = .inl none ∧ M2 = M') := by
  intro r0 x1 x2 x3 x4 s0 sr0 sr1 M h
  unfold a_Model_zone_0 at h
  refine aw_iconst (v := 1) d_Model_zone_48 (by decide) ?_
  refine aw_goto (tgt := 53) d_Model_zone_49 (by decide) ?_
  exact aw_pick [0, 1, 2, 3, 4] rfl (ih_1 _ _ _ _ _ _ _ _ _ h)
set_option maxHeartbeats 4000000 in
theorem s_Model_zone_1 {rc : Nat → Nat → Int32 → Int32 → Int32 → Int32 → Int32 → Nat → Nat → am_M → Option (Unit × am_M)} {res : Unit} {M' : am_M} (ih_0 : ∀ (r0 : Nat) (x1 : Int32) (x2 : Int32) (x3 : Int32) (x4 : Int32) (s0 : Int32) (sr0 : Nat) (sr1 : Nat) (M : am_M), rc 0 r0 x1 x2 x3 x4 s0 sr0 sr1 M = some (res, M') → AW u_Model_zone R_Model_zone 0 0 48 [(0, .ref r0), (1, .int x1), (2, .int x2), (3, .int x3), (4, .int x4)] [.ref sr0] M (fun r M2 => r = .inl none ∧ M2 = M')) (ih_1 : ∀ (r0 : Nat) (x1 : Int32) (x2 : Int32) (x3 : Int32) (x4 : Int32) (s0 : Int32) (sr0 : Nat) (sr1 : Nat) (M : am_M), rc 1 r0 x1 x2 x3 x4 s0 sr0 sr1 M = some (res, M') → AW u_Model_zone R_Model_zone 0 0 53 [(0, .ref r0), (1, .int x1), (2, .int x2), (3, .int x3), (4, .int x4)] [.int s0, .ref sr1] M (fun r M2 => r = .inl none ∧ M2 = M')) : ∀ (r0 : Nat) (x1 : Int32) (x2 : Int32) (x3 : Int32) (x4 : Int32) (s0 : Int32) (sr0 : Nat) (sr1 : Nat) (M : am_M), a_Model_zone_1 rc r0 x1 x2 x3 x4 s0 sr0 sr1 M = some (res, M') → AW u_Model_zone R_Model_zone 0 0 53 [(0, .ref r0), (1, .int x1), (2, .int x2), (3, .int x3), (4, .int x4)] [.int s0, .ref sr1] M (fun r M2 => r = .inl none ∧ M2 = M') := by
  intro r0 x1 x2 x3 x4 s0 sr0 sr1 M h
  unfold a_Model_zone_1 at h
  refine aw_iconst (v := 1) d_Model_zone_53 (by decide) ?_
  obtain ⟨o54, e_o54, h⟩ := q_bind h
  obtain ⟨⟨t54, M54⟩, e_t54, h⟩ := q_bind h
  dsimp only at h
  refine aw_cV (v := (some (.int t54))) (As := [.int s0, .int (1 : Int32)]) (rest := []) (st' := [.int t54]) d_Model_zone_54 kV_Model_184 (q_ob_spec e_o54).1 (q_ob_spec e_o54).2 ⟨Nat.le_of_ble_eq_true rfl, Nat.le_of_ble_eq_true rfl, Nat.le_of_ble_eq_true rfl, Nat.le_of_ble_eq_true rfl⟩ rfl rfl (Nat.le_of_ble_eq_true rfl) rfl (mt_Model_fails e_t54) ?_
  refine aw_if_eq (tgt := 61) d_Model_zone_57 (by decide) (fun hc => ?_) (fun hc => ?_)
  · rw [if_pos hc] at h
    refine aw_aload_n d_Model_zone_61 rfl rfl ?_
    obtain ⟨t62, e_t62, h⟩ := q_bind h
    refine aw_gtr d_Model_zone_62 fl_Model_7 (Or.inr ⟨_, rfl⟩) e_t62 ?_
    refine aw_iload_n d_Model_zone_65 rfl rfl ?_
    refine aw_iload_n d_Model_zone_66 rfl rfl ?_
    obtain ⟨M67, e_M67, h⟩ := q_bind h
    refine aw_sti d_Model_zone_67 e_M67 ?_
    refine aw_aload_n d_Model_zone_68 rfl rfl ?_
    obtain ⟨t69, e_t69, h⟩ := q_bind h
    refine aw_gtr d_Model_zone_69 fl_Model_13 (Or.inr ⟨_, rfl⟩) e_t69 ?_
    refine aw_iload_n d_Model_zone_72 rfl rfl ?_
    refine aw_iload_n d_Model_zone_73 rfl rfl ?_
    obtain ⟨M74, e_M74, h⟩ := q_bind h
    refine aw_sti d_Model_zone_74 e_M74 ?_
    refine aw_aload_n d_Model_zone_75 rfl rfl ?_
    obtain ⟨t76, e_t76, h⟩ := q_bind h
    refine aw_gtr d_Model_zone_76 fl_Model_16 (Or.inr ⟨_, rfl⟩) e_t76 ?_
    refine aw_iload_n d_Model_zone_79 rfl rfl ?_
    refine aw_iload d_Model_zone_80 rfl ?_
    obtain ⟨M82, e_M82, h⟩ := q_bind h
    refine aw_sti d_Model_zone_82 e_M82 ?_
    refine aw_aload_n d_Model_zone_83 rfl rfl ?_
    obtain ⟨t84, e_t84, h⟩ := q_bind h
    refine aw_gtr d_Model_zone_84 fl_Model_23 (Or.inr ⟨_, rfl⟩) e_t84 ?_
    refine aw_iload_n d_Model_zone_87 rfl rfl ?_
    refine aw_iconst (v := 0) d_Model_zone_88 (by decide) ?_
    obtain ⟨M89, e_M89, h⟩ := q_bind h
    refine aw_stz d_Model_zone_89 e_M89 ?_
    refine aw_aload_n d_Model_zone_90 rfl rfl ?_
    obtain ⟨o91, e_o91, h⟩ := q_bind h
    obtain ⟨⟨t91, M91⟩, e_t91, h⟩ := q_bind h
    dsimp only at h
    refine aw_cV (v := none) (As := []) (rest := []) (st' := []) d_Model_zone_91 kV_Model_188 (q_ob_spec e_o91).1 (q_ob_spec e_o91).2 ⟨Nat.le_of_ble_eq_true rfl, Nat.le_of_ble_eq_true rfl, Nat.le_of_ble_eq_true rfl, Nat.le_of_ble_eq_true rfl⟩ rfl rfl (Nat.le_of_ble_eq_true rfl) rfl (mt_Model_loses e_t91) ?_
    cases h
    exact aw_vreturn d_Model_zone_94 rfl (Nat.le_of_ble_eq_true rfl) (Nat.le_of_ble_eq_true rfl) ⟨rfl, rfl⟩
  · rw [if_neg hc] at h
    cases h
    exact aw_vreturn d_Model_zone_60 rfl (Nat.le_of_ble_eq_true rfl) (Nat.le_of_ble_eq_true rfl) ⟨rfl, rfl⟩
theorem l_Model_zone {res : Unit} {M' : am_M} : ∀ F : Nat, (∀ (r0 : Nat) (x1 : Int32) (x2 : Int32) (x3 : Int32) (x4 : Int32) (s0 : Int32) (sr0 : Nat) (sr1 : Nat) (M : am_M), g_Model_zone F 0 r0 x1 x2 x3 x4 s0 sr0 sr1 M = some (res, M') → AW u_Model_zone R_Model_zone 0 0 48 [(0, .ref r0), (1, .int x1), (2, .int x2), (3, .int x3), (4, .int x4)] [.ref sr0] M (fun r M2 => r = .inl none ∧ M2 = M')) ∧ (∀ (r0 : Nat) (x1 : Int32) (x2 : Int32) (x3 : Int32) (x4 : Int32) (s0 : Int32) (sr0 : Nat) (sr1 : Nat) (M : am_M), g_Model_zone F 1 r0 x1 x2 x3 x4 s0 sr0 sr1 M = some (res, M') → AW u_Model_zone R_Model_zone 0 0 53 [(0, .ref r0), (1, .int x1), (2, .int x2), (3, .int x3), (4, .int x4)] [.int s0, .ref sr1] M (fun r M2 => r = .inl none ∧ M2 = M')) := by
  intro F
  induction F with
  | zero => exact ⟨fun _ _ _ _ _ _ _ _ _  h => (by cases h), fun _ _ _ _ _ _ _ _ _  h => (by cases h)⟩
  | succ F ih =>
    obtain ⟨ih0, ih1⟩ := ih
    exact ⟨s_Model_zone_0 ih0 ih1, s_Model_zone_1 ih0 ih1⟩
set_option maxHeartbeats 4000000 in
theorem mt_Model_zone {M : am_M} {a0 : Nat} {a1 : Int32} {a2 : Int32} {a3 : Int32} {a4 : Int32} {res : Unit} {M' : am_M} (h : f_Model_zone M a0 a1 a2 a3 a4 = some (res, M')) : AMet y_Model_zone u_Model_zone R_Model_zone [.ref a0, .int a1, .int a2, .int a3, .int a4] M (fun r M2 => r = .inl none ∧ M2 = M') := by
  refine am_met (by decide +kernel) w_Model_zone rfl rfl (Nat.le_of_ble_eq_true rfl) ?_
  show AW u_Model_zone R_Model_zone 0 0 0 [(0, .ref a0), (1, .int a1), (2, .int a2), (3, .int a3), (4, .int a4)] [] M (fun r M2 => r = .inl none ∧ M2 = M')
  have ih_0 := (l_Model_zone (res := res) (M' := M') 1000000000).1
  have ih_1 := (l_Model_zone (res := res) (M' := M') 1000000000).2
  unfold f_Model_zone at h
  unfold e_Model_zone at h
  generalize g_Model_zone 1000000000 = rc at h ih_0 ih_1
  refine aw_aload_n d_Model_zone_0 rfl rfl ?_
  refine aw_iload_n d_Model_zone_1 rfl rfl ?_
  refine aw_iconst (v := 0) d_Model_zone_2 (by decide) ?_
  refine aw_iconst (v := 4) d_Model_zone_3 (by decide) ?_
  obtain ⟨t4, e_t4, h⟩ := q_bind h
  refine aw_cS (v := (some (.int t4))) (As := [.int a1, .int (0 : Int32), .int (4 : Int32)]) (rest := [.ref a0]) (st' := [.int t4, .ref a0]) d_Model_zone_4 kS_Model_180 ⟨Nat.le_of_ble_eq_true rfl, Nat.le_of_ble_eq_true rfl, Nat.le_of_ble_eq_true rfl, Nat.le_of_ble_eq_true rfl⟩ rfl rfl (Nat.le_of_ble_eq_true rfl) rfl (mt_Model_within e_t4) ?_
  refine aw_if_eq (tgt := 48) d_Model_zone_7 (by decide) (fun hc => ?_) (fun hc => ?_)
  · rw [if_pos hc] at h
    exact aw_pick [0, 1, 2, 3, 4] rfl (ih_0 _ _ _ _ _ _ _ _ _ h)
  · rw [if_neg hc] at h
    refine aw_iload_n d_Model_zone_10 rfl rfl ?_
    refine aw_sipush (v := -720) d_Model_zone_11 (by decide) ?_
    refine aw_sipush (v := 720) d_Model_zone_14 (by decide) ?_
    obtain ⟨t17, e_t17, h⟩ := q_bind h
    refine aw_cS (v := (some (.int t17))) (As := [.int a2, .int (-720 : Int32), .int (720 : Int32)]) (rest := [.ref a0]) (st' := [.int t17, .ref a0]) d_Model_zone_17 kS_Model_180 ⟨Nat.le_of_ble_eq_true rfl, Nat.le_of_ble_eq_true rfl, Nat.le_of_ble_eq_true rfl, Nat.le_of_ble_eq_true rfl⟩ rfl rfl (Nat.le_of_ble_eq_true rfl) rfl (mt_Model_within e_t17) ?_
    refine aw_if_eq (tgt := 48) d_Model_zone_20 (by decide) (fun hc => ?_) (fun hc => ?_)
    · rw [if_pos hc] at h
      exact aw_pick [0, 1, 2, 3, 4] rfl (ih_0 _ _ _ _ _ _ _ _ _ h)
    · rw [if_neg hc] at h
      refine aw_iload d_Model_zone_23 rfl ?_
      refine aw_sipush (v := -720) d_Model_zone_25 (by decide) ?_
      refine aw_sipush (v := 720) d_Model_zone_28 (by decide) ?_
      obtain ⟨t31, e_t31, h⟩ := q_bind h
      refine aw_cS (v := (some (.int t31))) (As := [.int a4, .int (-720 : Int32), .int (720 : Int32)]) (rest := [.ref a0]) (st' := [.int t31, .ref a0]) d_Model_zone_31 kS_Model_180 ⟨Nat.le_of_ble_eq_true rfl, Nat.le_of_ble_eq_true rfl, Nat.le_of_ble_eq_true rfl, Nat.le_of_ble_eq_true rfl⟩ rfl rfl (Nat.le_of_ble_eq_true rfl) rfl (mt_Model_within e_t31) ?_
      refine aw_if_eq (tgt := 48) d_Model_zone_34 (by decide) (fun hc => ?_) (fun hc => ?_)
      · rw [if_pos hc] at h
        exact aw_pick [0, 1, 2, 3, 4] rfl (ih_0 _ _ _ _ _ _ _ _ _ h)
      · rw [if_neg hc] at h
        refine aw_iload_n d_Model_zone_37 rfl rfl ?_
        refine aw_iconst (v := 0) d_Model_zone_38 (by decide) ?_
        refine aw_sipush (v := 20160) d_Model_zone_39 (by decide) ?_
        obtain ⟨t42, e_t42, h⟩ := q_bind h
        refine aw_cS (v := (some (.int t42))) (As := [.int a3, .int (0 : Int32), .int (20160 : Int32)]) (rest := [.ref a0]) (st' := [.int t42, .ref a0]) d_Model_zone_42 kS_Model_180 ⟨Nat.le_of_ble_eq_true rfl, Nat.le_of_ble_eq_true rfl, Nat.le_of_ble_eq_true rfl, Nat.le_of_ble_eq_true rfl⟩ rfl rfl (Nat.le_of_ble_eq_true rfl) rfl (mt_Model_within e_t42) ?_
        refine aw_if_ne (tgt := 52) d_Model_zone_45 (by decide) (fun hc => ?_) (fun hc => ?_)
        · rw [if_neg hc] at h
          refine aw_iconst (v := 0) d_Model_zone_52 (by decide) ?_
          exact aw_pick [0, 1, 2, 3, 4] rfl (ih_1 _ _ _ _ _ _ _ _ _ h)
        · rw [if_pos hc] at h
          exact aw_pick [0, 1, 2, 3, 4] rfl (ih_0 _ _ _ _ _ _ _ _ _ h)
