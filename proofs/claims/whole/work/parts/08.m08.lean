-- Sharing_holderOf Sharing_orderMembers Sharing_findAllowed Sharing_areRivals Sharing_fits Sharing_canGiveRest Trip_put
def y_Sharing_holderOf : MethodName := ⟨"CrewOffice$Sharing", "holderOf", "(I)I"⟩
def u_Sharing_holderOf : am_U := ("CrewOffice$Sharing", "holderOf", prog_8_method_5_code, 3, (some .int), [])
def R_Sharing_holderOf : Room := { frames := 1, cells := 0, slots := 0, locals := 20 }
theorem d_Sharing_holderOf_0 : decode u_Sharing_holderOf.2.2.1 0 = .ok (.iconst 0, 1) := by decide +kernel
theorem d_Sharing_holderOf_1 : decode u_Sharing_holderOf.2.2.1 1 = .ok (.istore_n 2, 1) := by decide +kernel
theorem d_Sharing_holderOf_2 : decode u_Sharing_holderOf.2.2.1 2 = .ok (.iload_n 2, 1) := by decide +kernel
theorem d_Sharing_holderOf_3 : decode u_Sharing_holderOf.2.2.1 3 = .ok (.iconst 4, 1) := by decide +kernel
theorem d_Sharing_holderOf_4 : decode u_Sharing_holderOf.2.2.1 4 = .ok (.if_icmp .ge 25, 3) := by decide +kernel
theorem d_Sharing_holderOf_7 : decode u_Sharing_holderOf.2.2.1 7 = .ok (.aload_n 0, 1) := by decide +kernel
theorem d_Sharing_holderOf_8 : decode u_Sharing_holderOf.2.2.1 8 = .ok (.getfield 9, 3) := by decide +kernel
theorem d_Sharing_holderOf_11 : decode u_Sharing_holderOf.2.2.1 11 = .ok (.iload_n 2, 1) := by decide +kernel
theorem d_Sharing_holderOf_12 : decode u_Sharing_holderOf.2.2.1 12 = .ok (.iaload, 1) := by decide +kernel
theorem d_Sharing_holderOf_13 : decode u_Sharing_holderOf.2.2.1 13 = .ok (.iload_n 1, 1) := by decide +kernel
theorem d_Sharing_holderOf_14 : decode u_Sharing_holderOf.2.2.1 14 = .ok (.invokestatic 56, 3) := by decide +kernel
theorem d_Sharing_holderOf_17 : decode u_Sharing_holderOf.2.2.1 17 = .ok (.iand, 1) := by decide +kernel
theorem d_Sharing_holderOf_18 : decode u_Sharing_holderOf.2.2.1 18 = .ok (.ifCond .eq 5, 3) := by decide +kernel
theorem d_Sharing_holderOf_21 : decode u_Sharing_holderOf.2.2.1 21 = .ok (.iload_n 2, 1) := by decide +kernel
theorem d_Sharing_holderOf_22 : decode u_Sharing_holderOf.2.2.1 22 = .ok (.ireturn, 1) := by decide +kernel
theorem d_Sharing_holderOf_23 : decode u_Sharing_holderOf.2.2.1 23 = .ok (.iinc 2 1, 3) := by decide +kernel
theorem d_Sharing_holderOf_26 : decode u_Sharing_holderOf.2.2.1 26 = .ok (.goto (-24), 3) := by decide +kernel
theorem d_Sharing_holderOf_29 : decode u_Sharing_holderOf.2.2.1 29 = .ok (.iconst (-1), 1) := by decide +kernel
theorem d_Sharing_holderOf_30 : decode u_Sharing_holderOf.2.2.1 30 = .ok (.ireturn, 1) := by decide +kernel
theorem w_Sharing_holderOf : am_code y_Sharing_holderOf u_Sharing_holderOf ∈ am_ws := am_mem (List.mem_of_getElem? (i := 964) (by decide +kernel)) rfl
def a_Sharing_holderOf_0 (rc : Nat → Nat → Int32 → Int32 → am_M → Option (Int32)) (r0 : Nat) (x1 : Int32) (x2 : Int32) (M : am_M) : Option (Int32) := if (4 : Int32) ≤ x2 then (some (-1 : Int32)) else ((q_gtr M r0 8 3).bind (fun t8 => (q_ldi M t8 x2).bind (fun t12 => (f_Sharing_bitOf M x1).bind (fun t14 => if (t12 &&& t14) = 0 then (rc 0 r0 x1 (x2 + (1 : Int32)) M) else (some x2)))))
def g_Sharing_holderOf : Nat → Nat → Nat → Int32 → Int32 → am_M → Option (Int32)
  | 0, _, _, _, _, _ => none
  | F + 1, 0, r0, x1, x2, M => a_Sharing_holderOf_0 (g_Sharing_holderOf F) r0 x1 x2 M
  | _ + 1, _ + 1, _, _, _, _ => none
def e_Sharing_holderOf (rc : Nat → Nat → Int32 → Int32 → am_M → Option (Int32)) (M : am_M) (a0 : Nat) (a1 : Int32) : Option (Int32) := rc 0 a0 a1 (0 : Int32) M
def f_Sharing_holderOf (M : am_M) (a0 : Nat) (a1 : Int32) : Option (Int32) := e_Sharing_holderOf (g_Sharing_holderOf 1000000000) M a0 a1
theorem fl_Sharing_9 : am_fl "CrewOffice$Sharing" 9 8 3 := ⟨by decide, by decide, List.mem_of_getElem? (i := 403) (by decide +kernel)⟩
theorem kS_Sharing_56 : am_kS "CrewOffice$Sharing" 56 y_Sharing_bitOf u_Sharing_bitOf 1 := ⟨List.mem_of_getElem? (i := 911) (by decide +kernel), List.mem_of_getElem? (i := 912) (by decide +kernel), List.mem_of_getElem? (i := 64) (by decide +kernel), w_Sharing_bitOf, ⟨⟨by decide +kernel, by decide +kernel⟩, by decide +kernel⟩⟩
set_option maxHeartbeats 4000000 in
theorem s_Sharing_holderOf_0 {rc : Nat → Nat → Int32 → Int32 → am_M → Option (Int32)} {res : Int32} (ih_0 : ∀ (r0 : Nat) (x1 : Int32) (x2 : Int32) (M : am_M), rc 0 r0 x1 x2 M = some res → AW u_Sharing_holderOf R_Sharing_holderOf 0 0 2 [(0, .ref r0), (1, .int x1), (2, .int x2)] [] M (fun r M2 => r = .inl (some (.int res)) ∧ M2 = M)) : ∀ (r0 : Nat) (x1 : Int32) (x2 : Int32) (M : am_M), a_Sharing_holderOf_0 rc r0 x1 x2 M = some res → AW u_Sharing_holderOf R_Sharing_holderOf 0 0 2 [(0, .ref r0), (1, .int x1), (2, .int x2)] [] M (fun r M2 => r = .inl (some (.int res)) ∧ M2 = M) := by
  intro r0 x1 x2 M h
  unfold a_Sharing_holderOf_0 at h
  refine aw_iload_n d_Sharing_holderOf_2 rfl rfl ?_
  refine aw_iconst (v := 4) d_Sharing_holderOf_3 (by decide) ?_
  refine aw_icmp_ge (tgt := 29) d_Sharing_holderOf_4 (by decide) (fun hc => ?_) (fun hc => ?_)
  · rw [if_pos hc] at h
    refine aw_iconst (v := -1) d_Sharing_holderOf_29 (by decide) ?_
    cases h
    exact aw_ireturn d_Sharing_holderOf_30 rfl (Nat.le_of_ble_eq_true rfl) (Nat.le_of_ble_eq_true rfl) ⟨rfl, rfl⟩
  · rw [if_neg hc] at h
    refine aw_aload_n d_Sharing_holderOf_7 rfl rfl ?_
    obtain ⟨t8, e_t8, h⟩ := q_bind h
    refine aw_gtr d_Sharing_holderOf_8 fl_Sharing_9 (Or.inr ⟨_, rfl⟩) e_t8 ?_
    refine aw_iload_n d_Sharing_holderOf_11 rfl rfl ?_
    obtain ⟨t12, e_t12, h⟩ := q_bind h
    refine aw_ldi d_Sharing_holderOf_12 e_t12 ?_
    refine aw_iload_n d_Sharing_holderOf_13 rfl rfl ?_
    obtain ⟨t14, e_t14, h⟩ := q_bind h
    refine aw_cS (v := (some (.int t14))) (As := [.int x1]) (rest := [.int t12]) (st' := [.int t14, .int t12]) d_Sharing_holderOf_14 kS_Sharing_56 ⟨Nat.le_of_ble_eq_true rfl, Nat.le_of_ble_eq_true rfl, Nat.le_of_ble_eq_true rfl, Nat.le_of_ble_eq_true rfl⟩ rfl rfl (Nat.le_of_ble_eq_true rfl) rfl (mt_Sharing_bitOf e_t14) ?_
    refine aw_iand d_Sharing_holderOf_17 ?_
    refine aw_if_eq (tgt := 23) d_Sharing_holderOf_18 (by decide) (fun hc => ?_) (fun hc => ?_)
    · rw [if_pos hc] at h
      refine aw_iinc (v := (x2 + (1 : Int32))) (ls' := [(2, .int _), (0, .ref _), (1, .int _)]) d_Sharing_holderOf_23 rfl rfl (Nat.le_of_ble_eq_true rfl) rfl ?_
      refine aw_goto (tgt := 2) d_Sharing_holderOf_26 (by decide) ?_
      exact aw_pick [1, 2, 0] rfl (ih_0 _ _ _ _ h)
    · rw [if_neg hc] at h
      refine aw_iload_n d_Sharing_holderOf_21 rfl rfl ?_
      cases h
      exact aw_ireturn d_Sharing_holderOf_22 rfl (Nat.le_of_ble_eq_true rfl) (Nat.le_of_ble_eq_true rfl) ⟨rfl, rfl⟩
theorem l_Sharing_holderOf {res : Int32} : ∀ F : Nat, (∀ (r0 : Nat) (x1 : Int32) (x2 : Int32) (M : am_M), g_Sharing_holderOf F 0 r0 x1 x2 M = some res → AW u_Sharing_holderOf R_Sharing_holderOf 0 0 2 [(0, .ref r0), (1, .int x1), (2, .int x2)] [] M (fun r M2 => r = .inl (some (.int res)) ∧ M2 = M)) := by
  intro F
  induction F with
  | zero => exact fun _ _ _ _  h => (by cases h)
  | succ F ih =>
    have ih0 := ih
    exact s_Sharing_holderOf_0 ih0
set_option maxHeartbeats 4000000 in
theorem mt_Sharing_holderOf {M : am_M} {a0 : Nat} {a1 : Int32} {res : Int32} (h : f_Sharing_holderOf M a0 a1 = some res) : AMet y_Sharing_holderOf u_Sharing_holderOf R_Sharing_holderOf [.ref a0, .int a1] M (fun r M2 => r = .inl (some (.int res)) ∧ M2 = M) := by
  refine am_met (by decide +kernel) w_Sharing_holderOf rfl rfl (Nat.le_of_ble_eq_true rfl) ?_
  show AW u_Sharing_holderOf R_Sharing_holderOf 0 0 0 [(0, .ref a0), (1, .int a1)] [] M (fun r M2 => r = .inl (some (.int res)) ∧ M2 = M)
  have ih_0 := (l_Sharing_holderOf (res := res) 1000000000)
  unfold f_Sharing_holderOf at h
  unfold e_Sharing_holderOf at h
  generalize g_Sharing_holderOf 1000000000 = rc at h ih_0
  refine aw_iconst (v := 0) d_Sharing_holderOf_0 (by decide) ?_
  refine aw_istore_n (ls' := [(2, .int _), (0, .ref _), (1, .int _)]) d_Sharing_holderOf_1 rfl (Nat.le_of_ble_eq_true rfl) rfl ?_
  exact aw_pick [1, 2, 0] rfl (ih_0 _ _ _ _ h)
def y_Sharing_orderMembers : MethodName := ⟨"CrewOffice$Sharing", "orderMembers", "()V"⟩
def u_Sharing_orderMembers : am_U := ("CrewOffice$Sharing", "orderMembers", prog_8_method_8_code, 3, none, [])
def R_Sharing_orderMembers : Room := { frames := 0, cells := 0, slots := 0, locals := 0 }
theorem d_Sharing_orderMembers_0 : decode u_Sharing_orderMembers.2.2.1 0 = .ok (.aload_n 0, 1) := by decide +kernel
theorem d_Sharing_orderMembers_1 : decode u_Sharing_orderMembers.2.2.1 1 = .ok (.iconst 0, 1) := by decide +kernel
theorem d_Sharing_orderMembers_2 : decode u_Sharing_orderMembers.2.2.1 2 = .ok (.putfield 81, 3) := by decide +kernel
theorem d_Sharing_orderMembers_5 : decode u_Sharing_orderMembers.2.2.1 5 = .ok (.iconst 0, 1) := by decide +kernel
theorem d_Sharing_orderMembers_6 : decode u_Sharing_orderMembers.2.2.1 6 = .ok (.istore_n 1, 1) := by decide +kernel
theorem d_Sharing_orderMembers_7 : decode u_Sharing_orderMembers.2.2.1 7 = .ok (.iload_n 1, 1) := by decide +kernel
theorem d_Sharing_orderMembers_8 : decode u_Sharing_orderMembers.2.2.1 8 = .ok (.iconst 4, 1) := by decide +kernel
theorem d_Sharing_orderMembers_9 : decode u_Sharing_orderMembers.2.2.1 9 = .ok (.if_icmp .ge 104, 3) := by decide +kernel
theorem d_Sharing_orderMembers_12 : decode u_Sharing_orderMembers.2.2.1 12 = .ok (.aload_n 0, 1) := by decide +kernel
theorem d_Sharing_orderMembers_13 : decode u_Sharing_orderMembers.2.2.1 13 = .ok (.getfield 27, 3) := by decide +kernel
theorem d_Sharing_orderMembers_16 : decode u_Sharing_orderMembers.2.2.1 16 = .ok (.getfield 88, 3) := by decide +kernel
theorem d_Sharing_orderMembers_19 : decode u_Sharing_orderMembers.2.2.1 19 = .ok (.iload_n 1, 1) := by decide +kernel
theorem d_Sharing_orderMembers_20 : decode u_Sharing_orderMembers.2.2.1 20 = .ok (.aaload, 1) := by decide +kernel
theorem d_Sharing_orderMembers_21 : decode u_Sharing_orderMembers.2.2.1 21 = .ok (.getfield 94, 3) := by decide +kernel
theorem d_Sharing_orderMembers_24 : decode u_Sharing_orderMembers.2.2.1 24 = .ok (.ifCond .eq 83, 3) := by decide +kernel
theorem d_Sharing_orderMembers_27 : decode u_Sharing_orderMembers.2.2.1 27 = .ok (.aload_n 0, 1) := by decide +kernel
theorem d_Sharing_orderMembers_28 : decode u_Sharing_orderMembers.2.2.1 28 = .ok (.getfield 81, 3) := by decide +kernel
theorem d_Sharing_orderMembers_31 : decode u_Sharing_orderMembers.2.2.1 31 = .ok (.istore_n 2, 1) := by decide +kernel
theorem d_Sharing_orderMembers_32 : decode u_Sharing_orderMembers.2.2.1 32 = .ok (.iload_n 2, 1) := by decide +kernel
theorem d_Sharing_orderMembers_33 : decode u_Sharing_orderMembers.2.2.1 33 = .ok (.ifCond .le 57, 3) := by decide +kernel
theorem d_Sharing_orderMembers_36 : decode u_Sharing_orderMembers.2.2.1 36 = .ok (.aload_n 0, 1) := by decide +kernel
theorem d_Sharing_orderMembers_37 : decode u_Sharing_orderMembers.2.2.1 37 = .ok (.getfield 27, 3) := by decide +kernel
theorem d_Sharing_orderMembers_40 : decode u_Sharing_orderMembers.2.2.1 40 = .ok (.getfield 88, 3) := by decide +kernel
theorem d_Sharing_orderMembers_43 : decode u_Sharing_orderMembers.2.2.1 43 = .ok (.aload_n 0, 1) := by decide +kernel
theorem d_Sharing_orderMembers_44 : decode u_Sharing_orderMembers.2.2.1 44 = .ok (.getfield 15, 3) := by decide +kernel
theorem d_Sharing_orderMembers_47 : decode u_Sharing_orderMembers.2.2.1 47 = .ok (.iload_n 2, 1) := by decide +kernel
theorem d_Sharing_orderMembers_48 : decode u_Sharing_orderMembers.2.2.1 48 = .ok (.iconst 1, 1) := by decide +kernel
theorem d_Sharing_orderMembers_49 : decode u_Sharing_orderMembers.2.2.1 49 = .ok (.isub, 1) := by decide +kernel
theorem d_Sharing_orderMembers_50 : decode u_Sharing_orderMembers.2.2.1 50 = .ok (.iaload, 1) := by decide +kernel
theorem d_Sharing_orderMembers_51 : decode u_Sharing_orderMembers.2.2.1 51 = .ok (.aaload, 1) := by decide +kernel
theorem d_Sharing_orderMembers_52 : decode u_Sharing_orderMembers.2.2.1 52 = .ok (.getfield 100, 3) := by decide +kernel
theorem d_Sharing_orderMembers_55 : decode u_Sharing_orderMembers.2.2.1 55 = .ok (.aload_n 0, 1) := by decide +kernel
theorem d_Sharing_orderMembers_56 : decode u_Sharing_orderMembers.2.2.1 56 = .ok (.getfield 27, 3) := by decide +kernel
theorem d_Sharing_orderMembers_59 : decode u_Sharing_orderMembers.2.2.1 59 = .ok (.getfield 88, 3) := by decide +kernel
theorem d_Sharing_orderMembers_62 : decode u_Sharing_orderMembers.2.2.1 62 = .ok (.iload_n 1, 1) := by decide +kernel
theorem d_Sharing_orderMembers_63 : decode u_Sharing_orderMembers.2.2.1 63 = .ok (.aaload, 1) := by decide +kernel
theorem d_Sharing_orderMembers_64 : decode u_Sharing_orderMembers.2.2.1 64 = .ok (.getfield 100, 3) := by decide +kernel
theorem d_Sharing_orderMembers_67 : decode u_Sharing_orderMembers.2.2.1 67 = .ok (.if_icmp .ge 23, 3) := by decide +kernel
theorem d_Sharing_orderMembers_70 : decode u_Sharing_orderMembers.2.2.1 70 = .ok (.aload_n 0, 1) := by decide +kernel
theorem d_Sharing_orderMembers_71 : decode u_Sharing_orderMembers.2.2.1 71 = .ok (.getfield 15, 3) := by decide +kernel
theorem d_Sharing_orderMembers_74 : decode u_Sharing_orderMembers.2.2.1 74 = .ok (.iload_n 2, 1) := by decide +kernel
theorem d_Sharing_orderMembers_75 : decode u_Sharing_orderMembers.2.2.1 75 = .ok (.aload_n 0, 1) := by decide +kernel
theorem d_Sharing_orderMembers_76 : decode u_Sharing_orderMembers.2.2.1 76 = .ok (.getfield 15, 3) := by decide +kernel
theorem d_Sharing_orderMembers_79 : decode u_Sharing_orderMembers.2.2.1 79 = .ok (.iload_n 2, 1) := by decide +kernel
theorem d_Sharing_orderMembers_80 : decode u_Sharing_orderMembers.2.2.1 80 = .ok (.iconst 1, 1) := by decide +kernel
theorem d_Sharing_orderMembers_81 : decode u_Sharing_orderMembers.2.2.1 81 = .ok (.isub, 1) := by decide +kernel
theorem d_Sharing_orderMembers_82 : decode u_Sharing_orderMembers.2.2.1 82 = .ok (.iaload, 1) := by decide +kernel
theorem d_Sharing_orderMembers_83 : decode u_Sharing_orderMembers.2.2.1 83 = .ok (.iastore, 1) := by decide +kernel
theorem d_Sharing_orderMembers_84 : decode u_Sharing_orderMembers.2.2.1 84 = .ok (.iinc 2 (-1), 3) := by decide +kernel
theorem d_Sharing_orderMembers_87 : decode u_Sharing_orderMembers.2.2.1 87 = .ok (.goto (-55), 3) := by decide +kernel
theorem d_Sharing_orderMembers_90 : decode u_Sharing_orderMembers.2.2.1 90 = .ok (.aload_n 0, 1) := by decide +kernel
theorem d_Sharing_orderMembers_91 : decode u_Sharing_orderMembers.2.2.1 91 = .ok (.getfield 15, 3) := by decide +kernel
theorem d_Sharing_orderMembers_94 : decode u_Sharing_orderMembers.2.2.1 94 = .ok (.iload_n 2, 1) := by decide +kernel
theorem d_Sharing_orderMembers_95 : decode u_Sharing_orderMembers.2.2.1 95 = .ok (.iload_n 1, 1) := by decide +kernel
theorem d_Sharing_orderMembers_96 : decode u_Sharing_orderMembers.2.2.1 96 = .ok (.iastore, 1) := by decide +kernel
theorem d_Sharing_orderMembers_97 : decode u_Sharing_orderMembers.2.2.1 97 = .ok (.aload_n 0, 1) := by decide +kernel
theorem d_Sharing_orderMembers_98 : decode u_Sharing_orderMembers.2.2.1 98 = .ok (.dup, 1) := by decide +kernel
theorem d_Sharing_orderMembers_99 : decode u_Sharing_orderMembers.2.2.1 99 = .ok (.getfield 81, 3) := by decide +kernel
theorem d_Sharing_orderMembers_102 : decode u_Sharing_orderMembers.2.2.1 102 = .ok (.iconst 1, 1) := by decide +kernel
theorem d_Sharing_orderMembers_103 : decode u_Sharing_orderMembers.2.2.1 103 = .ok (.iadd, 1) := by decide +kernel
theorem d_Sharing_orderMembers_104 : decode u_Sharing_orderMembers.2.2.1 104 = .ok (.putfield 81, 3) := by decide +kernel
theorem d_Sharing_orderMembers_107 : decode u_Sharing_orderMembers.2.2.1 107 = .ok (.iinc 1 1, 3) := by decide +kernel
theorem d_Sharing_orderMembers_110 : decode u_Sharing_orderMembers.2.2.1 110 = .ok (.goto (-103), 3) := by decide +kernel
theorem d_Sharing_orderMembers_113 : decode u_Sharing_orderMembers.2.2.1 113 = .ok (.return_, 1) := by decide +kernel
theorem w_Sharing_orderMembers : am_code y_Sharing_orderMembers u_Sharing_orderMembers ∈ am_ws := am_mem (List.mem_of_getElem? (i := 901) (by decide +kernel)) rfl
def a_Sharing_orderMembers_0 (rc : Nat → Nat → Int32 → Int32 → am_M → Option (Unit × am_M)) (r0 : Nat) (x1 : Int32) (x2 : Int32) (M : am_M) : Option (Unit × am_M) := if (4 : Int32) ≤ x1 then (some ((), M)) else ((q_gtr M r0 8 0).bind (fun t13 => (q_gtr M t13 3 2).bind (fun t16 => (q_ldr M t16 x1).bind (fun t20 => (q_gti M t20 2 0).bind (fun t21 => if t21 = 0 then (rc 3 r0 x1 0 M) else ((q_gti M r0 8 5).bind (fun t28 => rc 1 r0 x1 t28 M)))))))
def a_Sharing_orderMembers_1 (rc : Nat → Nat → Int32 → Int32 → am_M → Option (Unit × am_M)) (r0 : Nat) (x1 : Int32) (x2 : Int32) (M : am_M) : Option (Unit × am_M) := if x2 ≤ 0 then (rc 2 r0 x1 x2 M) else ((q_gtr M r0 8 0).bind (fun t37 => (q_gtr M t37 3 2).bind (fun t40 => (q_gtr M r0 8 4).bind (fun t44 => (q_ldi M t44 (x2 - (1 : Int32))).bind (fun t50 => (q_ldr M t40 t50).bind (fun t51 => (q_gti M t51 2 2).bind (fun t52 => (q_gtr M r0 8 0).bind (fun t56 => (q_gtr M t56 3 2).bind (fun t59 => (q_ldr M t59 x1).bind (fun t63 => (q_gti M t63 2 2).bind (fun t64 => if t64 ≤ t52 then (rc 2 r0 x1 x2 M) else ((q_gtr M r0 8 4).bind (fun t71 => (q_gtr M r0 8 4).bind (fun t76 => (q_ldi M t76 (x2 - (1 : Int32))).bind (fun t82 => (q_sti M t71 x2 t82).bind (fun M83 => rc 1 r0 x1 (x2 + (-1 : Int32)) M83))))))))))))))))
def a_Sharing_orderMembers_2 (rc : Nat → Nat → Int32 → Int32 → am_M → Option (Unit × am_M)) (r0 : Nat) (x1 : Int32) (x2 : Int32) (M : am_M) : Option (Unit × am_M) := (q_gtr M r0 8 4).bind (fun t91 => (q_sti M t91 x2 x1).bind (fun M96 => (q_gti M96 r0 8 5).bind (fun t99 => (q_pti M96 r0 8 5 (t99 + (1 : Int32))).bind (fun M104 => rc 3 r0 x1 0 M104))))
def a_Sharing_orderMembers_3 (rc : Nat → Nat → Int32 → Int32 → am_M → Option (Unit × am_M)) (r0 : Nat) (x1 : Int32) (x2 : Int32) (M : am_M) : Option (Unit × am_M) := rc 0 r0 (x1 + (1 : Int32)) 0 M
def g_Sharing_orderMembers : Nat → Nat → Nat → Int32 → Int32 → am_M → Option (Unit × am_M)
  | 0, _, _, _, _, _ => none
  | F + 1, 0, r0, x1, x2, M => a_Sharing_orderMembers_0 (g_Sharing_orderMembers F) r0 x1 x2 M
  | F + 1, 1, r0, x1, x2, M => a_Sharing_orderMembers_1 (g_Sharing_orderMembers F) r0 x1 x2 M
  | F + 1, 2, r0, x1, x2, M => a_Sharing_orderMembers_2 (g_Sharing_orderMembers F) r0 x1 x2 M
  | F + 1, 3, r0, x1, x2, M => a_Sharing_orderMembers_3 (g_Sharing_orderMembers F) r0 x1 x2 M
  | _ + 1, _ + 4, _, _, _, _ => none
def e_Sharing_orderMembers (rc : Nat → Nat → Int32 → Int32 → am_M → Option (Unit × am_M)) (M : am_M) (a0 : Nat) : Option (Unit × am_M) := (q_pti M a0 8 5 (0 : Int32)).bind (fun M2 => rc 0 a0 (0 : Int32) 0 M2)
def f_Sharing_orderMembers (M : am_M) (a0 : Nat) : Option (Unit × am_M) := e_Sharing_orderMembers (g_Sharing_orderMembers 1000000000) M a0
theorem fl_Sharing_15 : am_fl "CrewOffice$Sharing" 15 8 4 := ⟨by decide, by decide, List.mem_of_getElem? (i := 405) (by decide +kernel)⟩
theorem fl_Sharing_27 : am_fl "CrewOffice$Sharing" 27 8 0 := ⟨by decide, by decide, List.mem_of_getElem? (i := 400) (by decide +kernel)⟩
theorem fl_Sharing_81 : am_fl "CrewOffice$Sharing" 81 8 5 := ⟨by decide, by decide, List.mem_of_getElem? (i := 406) (by decide +kernel)⟩
theorem fl_Sharing_88 : am_fl "CrewOffice$Sharing" 88 3 2 := ⟨by decide, by decide, List.mem_of_getElem? (i := 226) (by decide +kernel)⟩
theorem fl_Sharing_94 : am_fl "CrewOffice$Sharing" 94 2 0 := ⟨by decide, by decide, List.mem_of_getElem? (i := 168) (by decide +kernel)⟩
theorem fl_Sharing_100 : am_fl "CrewOffice$Sharing" 100 2 2 := ⟨by decide, by decide, List.mem_of_getElem? (i := 174) (by decide +kernel)⟩
set_option maxHeartbeats 4000000 in
theorem s_Sharing_orderMembers_0 {rc : Nat → Nat → Int32 → Int32 → am_M → Option (Unit × am_M)} {res : Unit} {M' : am_M} (ih_0 : ∀ (r0 : Nat) (x1 : Int32) (x2 : Int32) (M : am_M), rc 0 r0 x1 x2 M = some (res, M') → AW u_Sharing_orderMembers R_Sharing_orderMembers 0 0 7 [(0, .ref r0), (1, .int x1)] [] M (fun r M2 => r = .inl none ∧ M2 = M')) (ih_1 : ∀ (r0 : Nat) (x1 : Int32) (x2 : Int32) (M : am_M), rc 1 r0 x1 x2 M = some (res, M') → AW u_Sharing_orderMembers R_Sharing_orderMembers 0 0 32 [(0, .ref r0), (1, .int x1), (2, .int x2)] [] M (fun r M2 => r = .inl none ∧ M2 = M')) (ih_2 : ∀ (r0 : Nat) (x1 : Int32) (x2 : Int32) (M : am_M), rc 2 r0 x1 x2 M = some (res, M') → AW u_Sharing_orderMembers R_Sharing_orderMembers 0 0 90 [(0, .ref r0), (1, .int x1), (2, .int x2)] [] M (fun r M2 => r = .inl none ∧ M2 = M')) (ih_3 : ∀ (r0 : Nat) (x1 : Int32) (x2 : Int32) (M : am_M), rc 3 r0 x1 x2 M = some (res, M') → AW u_Sharing_orderMembers R_Sharing_orderMembers 0 0 107 [(0, .ref r0), (1, .int x1)] [] M (fun r M2 => r = .inl none ∧ M2 = M')) : ∀ (r0 : Nat) (x1 : Int32) (x2 : Int32) (M : am_M), a_Sharing_orderMembers_0 rc r0 x1 x2 M = some (res, M') → AW u_Sharing_orderMembers R_Sharing_orderMembers 0 0 7 [(0, .ref r0), (1, .int x1)] [] M (fun r M2 => r = .inl none ∧ M2 = M') := by
  intro r0 x1 x2 M h
  unfold a_Sharing_orderMembers_0 at h
  refine aw_iload_n d_Sharing_orderMembers_7 rfl rfl ?_
  refine aw_iconst (v := 4) d_Sharing_orderMembers_8 (by decide) ?_
  refine aw_icmp_ge (tgt := 113) d_Sharing_orderMembers_9 (by decide) (fun hc => ?_) (fun hc => ?_)
  · rw [if_pos hc] at h
    cases h
    exact aw_vreturn d_Sharing_orderMembers_113 rfl (Nat.le_of_ble_eq_true rfl) (Nat.le_of_ble_eq_true rfl) ⟨rfl, rfl⟩
  · rw [if_neg hc] at h
    refine aw_aload_n d_Sharing_orderMembers_12 rfl rfl ?_
    obtain ⟨t13, e_t13, h⟩ := q_bind h
    refine aw_gtr d_Sharing_orderMembers_13 fl_Sharing_27 (Or.inl ⟨_, rfl⟩) e_t13 ?_
    obtain ⟨t16, e_t16, h⟩ := q_bind h
    refine aw_gtr d_Sharing_orderMembers_16 fl_Sharing_88 (Or.inr ⟨_, rfl⟩) e_t16 ?_
    refine aw_iload_n d_Sharing_orderMembers_19 rfl rfl ?_
    obtain ⟨t20, e_t20, h⟩ := q_bind h
    refine aw_ldr d_Sharing_orderMembers_20 e_t20 ?_
    obtain ⟨t21, e_t21, h⟩ := q_bind h
    refine aw_gti d_Sharing_orderMembers_21 fl_Sharing_94 (Or.inr rfl) e_t21 ?_
    refine aw_if_eq (tgt := 107) d_Sharing_orderMembers_24 (by decide) (fun hc => ?_) (fun hc => ?_)
    · rw [if_pos hc] at h
      exact aw_pick [0, 1] rfl (ih_3 _ _ _ _ h)
    · rw [if_neg hc] at h
      refine aw_aload_n d_Sharing_orderMembers_27 rfl rfl ?_
      obtain ⟨t28, e_t28, h⟩ := q_bind h
      refine aw_gti d_Sharing_orderMembers_28 fl_Sharing_81 (Or.inl rfl) e_t28 ?_
      refine aw_istore_n (ls' := [(2, .int _), (0, .ref _), (1, .int _)]) d_Sharing_orderMembers_31 rfl (Nat.le_of_ble_eq_true rfl) rfl ?_
      exact aw_pick [1, 2, 0] rfl (ih_1 _ _ _ _ h)
set_option maxHeartbeats 4000000 in
theorem s_Sharing_orderMembers_1 {rc : Nat → Nat → Int32 → Int32 → am_M → Option (Unit × am_M)} {res : Unit} {M' : am_M} (ih_0 : ∀ (r0 : Nat) (x1 : Int32) (x2 : Int32) (M : am_M), rc 0 r0 x1 x2 M = some (res, M') → AW u_Sharing_orderMembers R_Sharing_orderMembers 0 0 7 [(0, .ref r0), (1, .int x1)] [] M (fun r M2 => r = .inl none ∧ M2 = M')) (ih_1 : ∀ (r0 : Nat) (x1 : Int32) (x2 : Int32) (M : am_M), rc 1 r0 x1 x2 M = some (res, M') → AW u_Sharing_orderMembers R_Sharing_orderMembers 0 0 32 [(0, .ref r0), (1, .int x1), (2, .int x2)] [] M (fun r M2 => r = .inl none ∧ M2 = M')) (ih_2 : ∀ (r0 : Nat) (x1 : Int32) (x2 : Int32) (M : am_M), rc 2 r0 x1 x2 M = some (res, M') → AW u_Sharing_orderMembers R_Sharing_orderMembers 0 0 90 [(0, .ref r0), (1, .int x1), (2, .int x2)] [] M (fun r M2 => r = .inl none ∧ M2 = M')) (ih_3 : ∀ (r0 : Nat) (x1 : Int32) (x2 : Int32) (M : am_M), rc 3 r0 x1 x2 M = some (res, M') → AW u_Sharing_orderMembers R_Sharing_orderMembers 0 0 107 [(0, .ref r0), (1, .int x1)] [] M (fun r M2 => r = .inl none ∧ M2 = M')) : ∀ (r0 : Nat) (x1 : Int32) (x2 : Int32) (M : am_M), a_Sharing_orderMembers_1 rc r0 x1 x2 M = some (res, M') → AW u_Sharing_orderMembers R_Sharing_orderMembers 0 0 32 [(0, .ref r0), (1, .int x1), (2, .int x2)] [] M (fun r M2 => r = .inl none ∧ M2 = M') := by
  intro r0 x1 x2 M h
  unfold a_Sharing_orderMembers_1 at h
  refine aw_iload_n d_Sharing_orderMembers_32 rfl rfl ?_
  refine aw_if_le (tgt := 90) d_Sharing_orderMembers_33 (by decide) (fun hc => ?_) (fun hc => ?_)
  · rw [if_pos hc] at h
    exact aw_pick [0, 1, 2] rfl (ih_2 _ _ _ _ h)
  · rw [if_neg hc] at h
    refine aw_aload_n d_Sharing_orderMembers_36 rfl rfl ?_
    obtain ⟨t37, e_t37, h⟩ := q_bind h
    refine aw_gtr d_Sharing_orderMembers_37 fl_Sharing_27 (Or.inl ⟨_, rfl⟩) e_t37 ?_
    obtain ⟨t40, e_t40, h⟩ := q_bind h
    refine aw_gtr d_Sharing_orderMembers_40 fl_Sharing_88 (Or.inr ⟨_, rfl⟩) e_t40 ?_
    refine aw_aload_n d_Sharing_orderMembers_43 rfl rfl ?_
    obtain ⟨t44, e_t44, h⟩ := q_bind h
    refine aw_gtr d_Sharing_orderMembers_44 fl_Sharing_15 (Or.inr ⟨_, rfl⟩) e_t44 ?_
    refine aw_iload_n d_Sharing_orderMembers_47 rfl rfl ?_
    refine aw_iconst (v := 1) d_Sharing_orderMembers_48 (by decide) ?_
    refine aw_isub d_Sharing_orderMembers_49 ?_
    obtain ⟨t50, e_t50, h⟩ := q_bind h
    refine aw_ldi d_Sharing_orderMembers_50 e_t50 ?_
    obtain ⟨t51, e_t51, h⟩ := q_bind h
    refine aw_ldr d_Sharing_orderMembers_51 e_t51 ?_
    obtain ⟨t52, e_t52, h⟩ := q_bind h
    refine aw_gti d_Sharing_orderMembers_52 fl_Sharing_100 (Or.inl rfl) e_t52 ?_
    refine aw_aload_n d_Sharing_orderMembers_55 rfl rfl ?_
    obtain ⟨t56, e_t56, h⟩ := q_bind h
    refine aw_gtr d_Sharing_orderMembers_56 fl_Sharing_27 (Or.inl ⟨_, rfl⟩) e_t56 ?_
    obtain ⟨t59, e_t59, h⟩ := q_bind h
    refine aw_gtr d_Sharing_orderMembers_59 fl_Sharing_88 (Or.inr ⟨_, rfl⟩) e_t59 ?_
    refine aw_iload_n d_Sharing_orderMembers_62 rfl rfl ?_
    obtain ⟨t63, e_t63, h⟩ := q_bind h
    refine aw_ldr d_Sharing_orderMembers_63 e_t63 ?_
    obtain ⟨t64, e_t64, h⟩ := q_bind h
    refine aw_gti d_Sharing_orderMembers_64 fl_Sharing_100 (Or.inl rfl) e_t64 ?_
    refine aw_icmp_ge (tgt := 90) d_Sharing_orderMembers_67 (by decide) (fun hc => ?_) (fun hc => ?_)
    · rw [if_pos hc] at h
      exact aw_pick [0, 1, 2] rfl (ih_2 _ _ _ _ h)
    · rw [if_neg hc] at h
      refine aw_aload_n d_Sharing_orderMembers_70 rfl rfl ?_
      obtain ⟨t71, e_t71, h⟩ := q_bind h
      refine aw_gtr d_Sharing_orderMembers_71 fl_Sharing_15 (Or.inr ⟨_, rfl⟩) e_t71 ?_
      refine aw_iload_n d_Sharing_orderMembers_74 rfl rfl ?_
      refine aw_aload_n d_Sharing_orderMembers_75 rfl rfl ?_
      obtain ⟨t76, e_t76, h⟩ := q_bind h
      refine aw_gtr d_Sharing_orderMembers_76 fl_Sharing_15 (Or.inr ⟨_, rfl⟩) e_t76 ?_
      refine aw_iload_n d_Sharing_orderMembers_79 rfl rfl ?_
      refine aw_iconst (v := 1) d_Sharing_orderMembers_80 (by decide) ?_
      refine aw_isub d_Sharing_orderMembers_81 ?_
      obtain ⟨t82, e_t82, h⟩ := q_bind h
      refine aw_ldi d_Sharing_orderMembers_82 e_t82 ?_
      obtain ⟨M83, e_M83, h⟩ := q_bind h
      refine aw_sti d_Sharing_orderMembers_83 e_M83 ?_
      refine aw_iinc (v := (x2 + (-1 : Int32))) (ls' := [(2, .int _), (0, .ref _), (1, .int _)]) d_Sharing_orderMembers_84 rfl rfl (Nat.le_of_ble_eq_true rfl) rfl ?_
      refine aw_goto (tgt := 32) d_Sharing_orderMembers_87 (by decide) ?_
      exact aw_pick [1, 2, 0] rfl (ih_1 _ _ _ _ h)
set_option maxHeartbeats 4000000 in
theorem s_Sharing_orderMembers_2 {rc : Nat → Nat → Int32 → Int32 → am_M → Option (Unit × am_M)} {res : Unit} {M' : am_M} (ih_0 : ∀ (r0 : Nat) (x1 : Int32) (x2 : Int32) (M : am_M), rc 0 r0 x1 x2 M = some (res, M') → AW u_Sharing_orderMembers R_Sharing_orderMembers 0 0 7 [(0, .ref r0), (1, .int x1)] [] M (fun r M2 => r = .inl none ∧ M2 = M')) (ih_1 : ∀ (r0 : Nat) (x1 : Int32) (x2 : Int32) (M : am_M), rc 1 r0 x1 x2 M = some (res, M') → AW u_Sharing_orderMembers R_Sharing_orderMembers 0 0 32 [(0, .ref r0), (1, .int x1), (2, .int x2)] [] M (fun r M2 => r = .inl none ∧ M2 = M')) (ih_2 : ∀ (r0 : Nat) (x1 : Int32) (x2 : Int32) (M : am_M), rc 2 r0 x1 x2 M = some (res, M') → AW u_Sharing_orderMembers R_Sharing_orderMembers 0 0 90 [(0, .ref r0), (1, .int x1), (2, .int x2)] [] M (fun r M2 => r = .inl none ∧ M2 = M')) (ih_3 : ∀ (r0 : Nat) (x1 : Int32) (x2 : Int32) (M : am_M), rc 3 r0 x1 x2 M = some (res, M') → AW u_Sharing_orderMembers R_Sharing_orderMembers 0 0 107 [(0, .ref r0), (1, .int x1)] [] M (fun r M2 => r = .inl none ∧ M2 = M')) : ∀ (r0 : Nat) (x1 : Int32) (x2 : Int32) (M : am_M), a_Sharing_orderMembers_2 rc r0 x1 x2 M = some (res, M') → AW u_Sharing_orderMembers R_Sharing_orderMembers 0 0 90 [(0, .ref r0), (1, .int x1), (2, .int x2)] [] M (fun r M2 => r = .inl none ∧ M2 = M') := by
  intro r0 x1 x2 M h
  unfold a_Sharing_orderMembers_2 at h
  refine aw_aload_n d_Sharing_orderMembers_90 rfl rfl ?_
  obtain ⟨t91, e_t91, h⟩ := q_bind h
  refine aw_gtr d_Sharing_orderMembers_91 fl_Sharing_15 (Or.inr ⟨_, rfl⟩) e_t91 ?_
  refine aw_iload_n d_Sharing_orderMembers_94 rfl rfl ?_
  refine aw_iload_n d_Sharing_orderMembers_95 rfl rfl ?_
  obtain ⟨M96, e_M96, h⟩ := q_bind h
  refine aw_sti d_Sharing_orderMembers_96 e_M96 ?_
  refine aw_aload_n d_Sharing_orderMembers_97 rfl rfl ?_
  refine aw_dup d_Sharing_orderMembers_98 rfl ?_
  obtain ⟨t99, e_t99, h⟩ := q_bind h
  refine aw_gti d_Sharing_orderMembers_99 fl_Sharing_81 (Or.inl rfl) e_t99 ?_
  refine aw_iconst (v := 1) d_Sharing_orderMembers_102 (by decide) ?_
  refine aw_iadd d_Sharing_orderMembers_103 ?_
  obtain ⟨M104, e_M104, h⟩ := q_bind h
  refine aw_pti d_Sharing_orderMembers_104 fl_Sharing_81 rfl rfl e_M104 ?_
  exact aw_pick [0, 1] rfl (ih_3 _ _ _ _ h)
set_option maxHeartbeats 4000000 in
theorem s_Sharing_orderMembers_3 {rc : Nat → Nat → Int32 → Int32 → am_M → Option (Unit × am_M)} {res : Unit} {M' : am_M} (ih_0 : ∀ (r0 : Nat) (x1 : Int32) (x2 : Int32) (M : am_M), rc 0 r0 x1 x2 M = some (res, M') → AW u_Sharing_orderMembers R_Sharing_orderMembers 0 0 7 [(0, .ref r0), (1, .int x1)] [] M (fun r M2 => r = .inl none ∧ M2 = M')) (ih_1 : ∀ (r0 : Nat) (x1 : Int32) (x2 : Int32) (M : am_M), rc 1 r0 x1 x2 M = some (res, M') → AW u_Sharing_orderMembers R_Sharing_orderMembers 0 0 32 [(0, .ref r0), (1, .int x1), (2, .int x2)] [] M (fun r M2 => r = .inl none ∧ M2 = M')) (ih_2 : ∀ (r0 : Nat) (x1 : Int32) (x2 : Int32) (M : am_M), rc 2 r0 x1 x2 M = some (res, M') → AW u_Sharing_orderMembers R_Sharing_orderMembers 0 0 90 [(0, .ref r0), (1, .int x1), (2, .int x2)] [] M (fun r M2 => r = .inl none ∧ M2 = M')) (ih_3 : ∀ (r0 : Nat) (x1 : Int32) (x2 : Int32) (M : am_M), rc 3 r0 x1 x2 M = some (res, M') → AW u_Sharing_orderMembers R_Sharing_orderMembers 0 0 107 [(0, .ref r0), (1, .int x1)] [] M (fun r M2 => r = .inl none ∧ M2 = M')) : ∀ (r0 : Nat) (x1 : Int32) (x2 : Int32) (M : am_M), a_Sharing_orderMembers_3 rc r0 x1 x2 M = some (res, M') → AW u_Sharing_orderMembers R_Sharing_orderMembers 0 0 107 [(0, .ref r0), (1, .int x1)] [] M (fun r M2 => r = .inl none ∧ M2 = M') := by
  intro r0 x1 x2 M h
  unfold a_Sharing_orderMembers_3 at h
  refine aw_iinc (v := (x1 + (1 : Int32))) (ls' := [(1, .int _), (0, .ref _)]) d_Sharing_orderMembers_107 rfl rfl (Nat.le_of_ble_eq_true rfl) rfl ?_
  refine aw_goto (tgt := 7) d_Sharing_orderMembers_110 (by decide) ?_
  exact aw_pick [1, 0] rfl (ih_0 _ _ _ _ h)
theorem l_Sharing_orderMembers {res : Unit} {M' : am_M} : ∀ F : Nat, (∀ (r0 : Nat) (x1 : Int32) (x2 : Int32) (M : am_M), g_Sharing_orderMembers F 0 r0 x1 x2 M = some (res, M') → AW u_Sharing_orderMembers R_Sharing_orderMembers 0 0 7 [(0, .ref r0), (1, .int x1)] [] M (fun r M2 => r = .inl none ∧ M2 = M')) ∧ (∀ (r0 : Nat) (x1 : Int32) (x2 : Int32) (M : am_M), g_Sharing_orderMembers F 1 r0 x1 x2 M = some (res, M') → AW u_Sharing_orderMembers R_Sharing_orderMembers 0 0 32 [(0, .ref r0), (1, .int x1), (2, .int x2)] [] M (fun r M2 => r = .inl none ∧ M2 = M')) ∧ (∀ (r0 : Nat) (x1 : Int32) (x2 : Int32) (M : am_M), g_Sharing_orderMembers F 2 r0 x1 x2 M = some (res, M') → AW u_Sharing_orderMembers R_Sharing_orderMembers 0 0 90 [(0, .ref r0), (1, .int x1), (2, .int x2)] [] M (fun r M2 => r = .inl none ∧ M2 = M')) ∧ (∀ (r0 : Nat) (x1 : Int32) (x2 : Int32) (M : am_M), g_Sharing_orderMembers F 3 r0 x1 x2 M = some (res, M') → AW u_Sharing_orderMembers R_Sharing_orderMembers 0 0 107 [(0, .ref r0), (1, .int x1)] [] M (fun r M2 => r = .inl none ∧ M2 = M')) := by
  intro F
  induction F with
  | zero => exact ⟨fun _ _ _ _  h => (by cases h), fun _ _ _ _  h => (by cases h), fun _ _ _ _  h => (by cases h), fun _ _ _ _  h => (by cases h)⟩
  | succ F ih =>
    obtain ⟨ih0, ih1, ih2, ih3⟩ := ih
    exact ⟨s_Sharing_orderMembers_0 ih0 ih1 ih2 ih3, s_Sharing_orderMembers_1 ih0 ih1 ih2 ih3, s_Sharing_orderMembers_2 ih0 ih1 ih2 ih3, s_Sharing_orderMembers_3 ih0 ih1 ih2 ih3⟩
set_option maxHeartbeats 4000000 in
theorem mt_Sharing_orderMembers {M : am_M} {a0 : Nat} {res : Unit} {M' : am_M} (h : f_Sharing_orderMembers M a0 = some (res, M')) : AMet y_Sharing_orderMembers u_Sharing_orderMembers R_Sharing_orderMembers [.ref a0] M (fun r M2 => r = .inl none ∧ M2 = M') := by
  refine am_met (by decide +kernel) w_Sharing_orderMembers rfl rfl (Nat.le_of_ble_eq_true rfl) ?_
  show AW u_Sharing_orderMembers R_Sharing_orderMembers 0 0 0 [(0, .ref a0)] [] M (fun r M2 => r = .inl none ∧ M2 = M')
  have ih_0 := (l_Sharing_orderMembers (res := res) (M' := M') 1000000000).1
  have ih_1 := (l_Sharing_orderMembers (res := res) (M' := M') 1000000000).2.1
  have ih_2 := (l_Sharing_orderMembers (res := res) (M' := M') 1000000000).2.2.1
  have ih_3 := (l_Sharing_orderMembers (res := res) (M' := M') 1000000000).2.2.2
  unfold f_Sharing_orderMembers at h
  unfold e_Sharing_orderMembers at h
  generalize g_Sharing_orderMembers 1000000000 = rc at h ih_0 ih_1 ih_2 ih_3
  refine aw_aload_n d_Sharing_orderMembers_0 rfl rfl ?_
  refine aw_iconst (v := 0) d_Sharing_orderMembers_1 (by decide) ?_
  obtain ⟨M2, e_M2, h⟩ := q_bind h
  refine aw_pti d_Sharing_orderMembers_2 fl_Sharing_81 rfl rfl e_M2 ?_
  refine aw_iconst (v := 0) d_Sharing_orderMembers_5 (by decide) ?_
  refine aw_istore_n (ls' := [(1, .int _), (0, .ref _)]) d_Sharing_orderMembers_6 rfl (Nat.le_of_ble_eq_true rfl) rfl ?_
  exact aw_pick [1, 0] rfl (ih_0 _ _ _ _ h)
def y_Sharing_findAllowed : MethodName := ⟨"CrewOffice$Sharing", "findAllowed", "()V"⟩
def u_Sharing_findAllowed : am_U := ("CrewOffice$Sharing", "findAllowed", prog_8_method_9_code, 5, none, [])
def R_Sharing_findAllowed : Room := { frames := 2, cells := 0, slots := 0, locals := 44 }
theorem d_Sharing_findAllowed_0 : decode u_Sharing_findAllowed.2.2.1 0 = .ok (.iconst 0, 1) := by decide +kernel
theorem d_Sharing_findAllowed_1 : decode u_Sharing_findAllowed.2.2.1 1 = .ok (.istore_n 1, 1) := by decide +kernel
theorem d_Sharing_findAllowed_2 : decode u_Sharing_findAllowed.2.2.1 2 = .ok (.iload_n 1, 1) := by decide +kernel
theorem d_Sharing_findAllowed_3 : decode u_Sharing_findAllowed.2.2.1 3 = .ok (.aload_n 0, 1) := by decide +kernel
theorem d_Sharing_findAllowed_4 : decode u_Sharing_findAllowed.2.2.1 4 = .ok (.getfield 81, 3) := by decide +kernel
theorem d_Sharing_findAllowed_7 : decode u_Sharing_findAllowed.2.2.1 7 = .ok (.if_icmp .ge 101, 3) := by decide +kernel
theorem d_Sharing_findAllowed_10 : decode u_Sharing_findAllowed.2.2.1 10 = .ok (.aload_n 0, 1) := by decide +kernel
theorem d_Sharing_findAllowed_11 : decode u_Sharing_findAllowed.2.2.1 11 = .ok (.getfield 27, 3) := by decide +kernel
theorem d_Sharing_findAllowed_14 : decode u_Sharing_findAllowed.2.2.1 14 = .ok (.getfield 88, 3) := by decide +kernel
theorem d_Sharing_findAllowed_17 : decode u_Sharing_findAllowed.2.2.1 17 = .ok (.aload_n 0, 1) := by decide +kernel
theorem d_Sharing_findAllowed_18 : decode u_Sharing_findAllowed.2.2.1 18 = .ok (.getfield 15, 3) := by decide +kernel
theorem d_Sharing_findAllowed_21 : decode u_Sharing_findAllowed.2.2.1 21 = .ok (.iload_n 1, 1) := by decide +kernel
theorem d_Sharing_findAllowed_22 : decode u_Sharing_findAllowed.2.2.1 22 = .ok (.iaload, 1) := by decide +kernel
theorem d_Sharing_findAllowed_23 : decode u_Sharing_findAllowed.2.2.1 23 = .ok (.aaload, 1) := by decide +kernel
theorem d_Sharing_findAllowed_24 : decode u_Sharing_findAllowed.2.2.1 24 = .ok (.astore_n 2, 1) := by decide +kernel
theorem d_Sharing_findAllowed_25 : decode u_Sharing_findAllowed.2.2.1 25 = .ok (.aload_n 0, 1) := by decide +kernel
theorem d_Sharing_findAllowed_26 : decode u_Sharing_findAllowed.2.2.1 26 = .ok (.getfield 18, 3) := by decide +kernel
theorem d_Sharing_findAllowed_29 : decode u_Sharing_findAllowed.2.2.1 29 = .ok (.iload_n 1, 1) := by decide +kernel
theorem d_Sharing_findAllowed_30 : decode u_Sharing_findAllowed.2.2.1 30 = .ok (.iconst 0, 1) := by decide +kernel
theorem d_Sharing_findAllowed_31 : decode u_Sharing_findAllowed.2.2.1 31 = .ok (.iastore, 1) := by decide +kernel
theorem d_Sharing_findAllowed_32 : decode u_Sharing_findAllowed.2.2.1 32 = .ok (.iconst 0, 1) := by decide +kernel
theorem d_Sharing_findAllowed_33 : decode u_Sharing_findAllowed.2.2.1 33 = .ok (.istore_n 3, 1) := by decide +kernel
theorem d_Sharing_findAllowed_34 : decode u_Sharing_findAllowed.2.2.1 34 = .ok (.iload_n 3, 1) := by decide +kernel
theorem d_Sharing_findAllowed_35 : decode u_Sharing_findAllowed.2.2.1 35 = .ok (.aload_n 0, 1) := by decide +kernel
theorem d_Sharing_findAllowed_36 : decode u_Sharing_findAllowed.2.2.1 36 = .ok (.getfield 35, 3) := by decide +kernel
theorem d_Sharing_findAllowed_39 : decode u_Sharing_findAllowed.2.2.1 39 = .ok (.getfield 77, 3) := by decide +kernel
theorem d_Sharing_findAllowed_42 : decode u_Sharing_findAllowed.2.2.1 42 = .ok (.if_icmp .ge 60, 3) := by decide +kernel
theorem d_Sharing_findAllowed_45 : decode u_Sharing_findAllowed.2.2.1 45 = .ok (.aload_n 0, 1) := by decide +kernel
theorem d_Sharing_findAllowed_46 : decode u_Sharing_findAllowed.2.2.1 46 = .ok (.iload_n 3, 1) := by decide +kernel
theorem d_Sharing_findAllowed_47 : decode u_Sharing_findAllowed.2.2.1 47 = .ok (.invokevirtual 103, 3) := by decide +kernel
theorem d_Sharing_findAllowed_50 : decode u_Sharing_findAllowed.2.2.1 50 = .ok (.astore 4, 2) := by decide +kernel
theorem d_Sharing_findAllowed_52 : decode u_Sharing_findAllowed.2.2.1 52 = .ok (.aload 4, 2) := by decide +kernel
theorem d_Sharing_findAllowed_54 : decode u_Sharing_findAllowed.2.2.1 54 = .ok (.getfield 107, 3) := by decide +kernel
theorem d_Sharing_findAllowed_57 : decode u_Sharing_findAllowed.2.2.1 57 = .ok (.aload_n 2, 1) := by decide +kernel
theorem d_Sharing_findAllowed_58 : decode u_Sharing_findAllowed.2.2.1 58 = .ok (.getfield 112, 3) := by decide +kernel
theorem d_Sharing_findAllowed_61 : decode u_Sharing_findAllowed.2.2.1 61 = .ok (.if_icmp .ne 35, 3) := by decide +kernel
theorem d_Sharing_findAllowed_64 : decode u_Sharing_findAllowed.2.2.1 64 = .ok (.aload_n 2, 1) := by decide +kernel
theorem d_Sharing_findAllowed_65 : decode u_Sharing_findAllowed.2.2.1 65 = .ok (.aload 4, 2) := by decide +kernel
theorem d_Sharing_findAllowed_67 : decode u_Sharing_findAllowed.2.2.1 67 = .ok (.aload_n 0, 1) := by decide +kernel
theorem d_Sharing_findAllowed_68 : decode u_Sharing_findAllowed.2.2.1 68 = .ok (.getfield 27, 3) := by decide +kernel
theorem d_Sharing_findAllowed_71 : decode u_Sharing_findAllowed.2.2.1 71 = .ok (.getfield 113, 3) := by decide +kernel
theorem d_Sharing_findAllowed_74 : decode u_Sharing_findAllowed.2.2.1 74 = .ok (.bipush 10, 2) := by decide +kernel
theorem d_Sharing_findAllowed_76 : decode u_Sharing_findAllowed.2.2.1 76 = .ok (.iaload, 1) := by decide +kernel
theorem d_Sharing_findAllowed_77 : decode u_Sharing_findAllowed.2.2.1 77 = .ok (.invokevirtual 116, 3) := by decide +kernel
theorem d_Sharing_findAllowed_80 : decode u_Sharing_findAllowed.2.2.1 80 = .ok (.ifCond .ne 16, 3) := by decide +kernel
theorem d_Sharing_findAllowed_83 : decode u_Sharing_findAllowed.2.2.1 83 = .ok (.aload_n 0, 1) := by decide +kernel
theorem d_Sharing_findAllowed_84 : decode u_Sharing_findAllowed.2.2.1 84 = .ok (.getfield 18, 3) := by decide +kernel
theorem d_Sharing_findAllowed_87 : decode u_Sharing_findAllowed.2.2.1 87 = .ok (.iload_n 1, 1) := by decide +kernel
theorem d_Sharing_findAllowed_88 : decode u_Sharing_findAllowed.2.2.1 88 = .ok (.dup2, 1) := by decide +kernel
theorem d_Sharing_findAllowed_89 : decode u_Sharing_findAllowed.2.2.1 89 = .ok (.iaload, 1) := by decide +kernel
theorem d_Sharing_findAllowed_90 : decode u_Sharing_findAllowed.2.2.1 90 = .ok (.iload_n 3, 1) := by decide +kernel
theorem d_Sharing_findAllowed_91 : decode u_Sharing_findAllowed.2.2.1 91 = .ok (.invokestatic 56, 3) := by decide +kernel
theorem d_Sharing_findAllowed_94 : decode u_Sharing_findAllowed.2.2.1 94 = .ok (.ior, 1) := by decide +kernel
theorem d_Sharing_findAllowed_95 : decode u_Sharing_findAllowed.2.2.1 95 = .ok (.iastore, 1) := by decide +kernel
theorem d_Sharing_findAllowed_96 : decode u_Sharing_findAllowed.2.2.1 96 = .ok (.iinc 3 1, 3) := by decide +kernel
theorem d_Sharing_findAllowed_99 : decode u_Sharing_findAllowed.2.2.1 99 = .ok (.goto (-65), 3) := by decide +kernel
theorem d_Sharing_findAllowed_102 : decode u_Sharing_findAllowed.2.2.1 102 = .ok (.iinc 1 1, 3) := by decide +kernel
theorem d_Sharing_findAllowed_105 : decode u_Sharing_findAllowed.2.2.1 105 = .ok (.goto (-103), 3) := by decide +kernel
theorem d_Sharing_findAllowed_108 : decode u_Sharing_findAllowed.2.2.1 108 = .ok (.return_, 1) := by decide +kernel
theorem w_Sharing_findAllowed : am_code y_Sharing_findAllowed u_Sharing_findAllowed ∈ am_ws := am_mem (List.mem_of_getElem? (i := 905) (by decide +kernel)) rfl
def a_Sharing_findAllowed_0 (rc : Nat → Nat → Int32 → Nat → Int32 → am_M → Option (Unit × am_M)) (r0 : Nat) (x1 : Int32) (r2 : Nat) (x3 : Int32) (M : am_M) : Option (Unit × am_M) := (q_gti M r0 8 5).bind (fun t4 => if t4 ≤ x1 then (some ((), M)) else ((q_gtr M r0 8 0).bind (fun t11 => (q_gtr M t11 3 2).bind (fun t14 => (q_gtr M r0 8 4).bind (fun t18 => (q_ldi M t18 x1).bind (fun t22 => (q_ldr M t14 t22).bind (fun t23 => (q_gtr M r0 8 6).bind (fun t26 => (q_sti M t26 x1 (0 : Int32)).bind (fun M31 => rc 1 r0 x1 t23 (0 : Int32) M31)))))))))
def a_Sharing_findAllowed_1 (rc : Nat → Nat → Int32 → Nat → Int32 → am_M → Option (Unit × am_M)) (r0 : Nat) (x1 : Int32) (r2 : Nat) (x3 : Int32) (M : am_M) : Option (Unit × am_M) := (q_gtr M r0 8 2).bind (fun t36 => (q_gti M t36 7 3).bind (fun t39 => if t39 ≤ x3 then (rc 0 r0 (x1 + (1 : Int32)) 0 0 M) else ((q_ob M r0 8).bind (fun o47 => (f_Sharing_workAt M r0 x3).bind (fun t47 => (q_gti M t47 4 2).bind (fun t54 => (q_gti M r2 2 1).bind (fun t58 => if t54 = t58 then ((q_gtr M r0 8 0).bind (fun t68 => (q_gtr M t68 3 3).bind (fun t71 => (q_ldi M t71 (10 : Int32)).bind (fun t76 => (q_ob M r2 2).bind (fun o77 => (f_Member_leastOwnBroken M r2 t47 t76).bind (fun t77 => if t77 = 0 then ((q_gtr M r0 8 6).bind (fun t84 => (q_ldi M t84 x1).bind (fun t89 => (f_Sharing_bitOf M x3).bind (fun t91 => (q_sti M t84 x1 (t89 ||| t91)).bind (fun M95 => rc 2 r0 x1 r2 x3 M95))))) else (rc 2 r0 x1 r2 x3 M))))))) else (rc 2 r0 x1 r2 x3 M))))))))
def a_Sharing_findAllowed_2 (rc : Nat → Nat → Int32 → Nat → Int32 → am_M → Option (Unit × am_M)) (r0 : Nat) (x1 : Int32) (r2 : Nat) (x3 : Int32) (M : am_M) : Option (Unit × am_M) := rc 1 r0 x1 r2 (x3 + (1 : Int32)) M
def g_Sharing_findAllowed : Nat → Nat → Nat → Int32 → Nat → Int32 → am_M → Option (Unit × am_M)
  | 0, _, _, _, _, _, _ => none
  | F + 1, 0, r0, x1, r2, x3, M => a_Sharing_findAllowed_0 (g_Sharing_findAllowed F) r0 x1 r2 x3 M
  | F + 1, 1, r0, x1, r2, x3, M => a_Sharing_findAllowed_1 (g_Sharing_findAllowed F) r0 x1 r2 x3 M
  | F + 1, 2, r0, x1, r2, x3, M => a_Sharing_findAllowed_2 (g_Sharing_findAllowed F) r0 x1 r2 x3 M
  | _ + 1, _ + 3, _, _, _, _, _ => none
def e_Sharing_findAllowed (rc : Nat → Nat → Int32 → Nat → Int32 → am_M → Option (Unit × am_M)) (M : am_M) (a0 : Nat) : Option (Unit × am_M) := rc 0 a0 (0 : Int32) 0 0 M
def f_Sharing_findAllowed (M : am_M) (a0 : Nat) : Option (Unit × am_M) := e_Sharing_findAllowed (g_Sharing_findAllowed 1000000000) M a0
theorem fl_Sharing_18 : am_fl "CrewOffice$Sharing" 18 8 6 := ⟨by decide, by decide, List.mem_of_getElem? (i := 407) (by decide +kernel)⟩
theorem fl_Sharing_77 : am_fl "CrewOffice$Sharing" 77 7 3 := ⟨by decide, by decide, List.mem_of_getElem? (i := 376) (by decide +kernel)⟩
theorem fl_Sharing_107 : am_fl "CrewOffice$Sharing" 107 4 2 := ⟨by decide, by decide, List.mem_of_getElem? (i := 270) (by decide +kernel)⟩
theorem fl_Sharing_112 : am_fl "CrewOffice$Sharing" 112 2 1 := ⟨by decide, by decide, List.mem_of_getElem? (i := 172) (by decide +kernel)⟩
theorem fl_Sharing_113 : am_fl "CrewOffice$Sharing" 113 3 3 := ⟨by decide, by decide, List.mem_of_getElem? (i := 233) (by decide +kernel)⟩
theorem kV_Sharing_103 : am_kV "CrewOffice$Sharing" 103 8 y_Sharing_workAt u_Sharing_workAt 1 := ⟨List.mem_of_getElem? (i := 906) (by decide +kernel), ⟨List.mem_of_getElem? (i := 908) (by decide +kernel), List.mem_of_getElem? (i := 21) (by decide +kernel)⟩, List.mem_of_getElem? (i := 64) (by decide +kernel), w_Sharing_workAt, ⟨⟨by decide +kernel, by decide +kernel⟩, by decide +kernel⟩⟩
theorem kV_Sharing_116 : am_kV "CrewOffice$Sharing" 116 2 y_Member_leastOwnBroken u_Member_leastOwnBroken 2 := ⟨List.mem_of_getElem? (i := 910) (by decide +kernel), ⟨List.mem_of_getElem? (i := 571) (by decide +kernel), List.mem_of_getElem? (i := 572) (by decide +kernel)⟩, List.mem_of_getElem? (i := 58) (by decide +kernel), w_Member_leastOwnBroken, ⟨⟨by decide +kernel, by decide +kernel⟩, by decide +kernel⟩⟩
set_option maxHeartbeats 4000000 in
theorem s_Sharing_findAllowed_0 {rc : Nat → Nat → Int32 → Nat → Int32 → am_M → Option (Unit × am_M)} {res : Unit} {M' : am_M} (ih_0 : ∀ (r0 : Nat) (x1 : Int32) (r2 : Nat) (x3 : Int32) (M : am_M), rc 0 r0 x1 r2 x3 M = some (res, M') → AW u_Sharing_findAllowed R_Sharing_findAllowed 0 0 2 [(0, .ref r0), (1, .int x1)] [] M (fun r M2 => r = .inl none ∧ M2 = M')) (ih_1 : ∀ (r0 : Nat) (x1 : Int32) (r2 : Nat) (x3 : Int32) (M : am_M), rc 1 r0 x1 r2 x3 M = some (res, M') → AW u_Sharing_findAllowed R_Sharing_findAllowed 0 0 34 [(0, .ref r0), (1, .int x1), (2, .ref r2), (3, .int x3)] [] M (fun r M2 => r = .inl none ∧ M2 = M')) (ih_2 : ∀ (r0 : Nat) (x1 : Int32) (r2 : Nat) (x3 : Int32) (M : am_M), rc 2 r0 x1 r2 x3 M = some (res, M') → AW u_Sharing_findAllowed R_Sharing_findAllowed 0 0 96 [(0, .ref r0), (1, .int x1), (2, .ref r2), (3, .int x3)] [] M (fun r M2 => r = .inl none ∧ M2 = M')) : ∀ (r0 : Nat) (x1 : Int32) (r2 : Nat) (x3 : Int32) (M : am_M), a_Sharing_findAllowed_0 rc r0 x1 r2 x3 M = some (res, M') → AW u_Sharing_findAllowed R_Sharing_findAllowed 0 0 2 [(0, .ref r0), (1, .int x1)] [] M (fun r M2 => r = .inl none ∧ M2 = M') := by
  intro r0 x1 r2 x3 M h
  unfold a_Sharing_findAllowed_0 at h
  refine aw_iload_n d_Sharing_findAllowed_2 rfl rfl ?_
  refine aw_aload_n d_Sharing_findAllowed_3 rfl rfl ?_
  obtain ⟨t4, e_t4, h⟩ := q_bind h
  refine aw_gti d_Sharing_findAllowed_4 fl_Sharing_81 (Or.inl rfl) e_t4 ?_
  refine aw_icmp_ge (tgt := 108) d_Sharing_findAllowed_7 (by decide) (fun hc => ?_) (fun hc => ?_)
  · rw [if_pos hc] at h
    cases h
    exact aw_vreturn d_Sharing_findAllowed_108 rfl (Nat.le_of_ble_eq_true rfl) (Nat.le_of_ble_eq_true rfl) ⟨rfl, rfl⟩
  · rw [if_neg hc] at h
    refine aw_aload_n d_Sharing_findAllowed_10 rfl rfl ?_
    obtain ⟨t11, e_t11, h⟩ := q_bind h
    refine aw_gtr d_Sharing_findAllowed_11 fl_Sharing_27 (Or.inl ⟨_, rfl⟩) e_t11 ?_
    obtain ⟨t14, e_t14, h⟩ := q_bind h
    refine aw_gtr d_Sharing_findAllowed_14 fl_Sharing_88 (Or.inr ⟨_, rfl⟩) e_t14 ?_
    refine aw_aload_n d_Sharing_findAllowed_17 rfl rfl ?_
    obtain ⟨t18, e_t18, h⟩ := q_bind h
    refine aw_gtr d_Sharing_findAllowed_18 fl_Sharing_15 (Or.inr ⟨_, rfl⟩) e_t18 ?_
    refine aw_iload_n d_Sharing_findAllowed_21 rfl rfl ?_
    obtain ⟨t22, e_t22, h⟩ := q_bind h
    refine aw_ldi d_Sharing_findAllowed_22 e_t22 ?_
    obtain ⟨t23, e_t23, h⟩ := q_bind h
    refine aw_ldr d_Sharing_findAllowed_23 e_t23 ?_
    refine aw_astore_n (ls' := [(2, .ref _), (0, .ref _), (1, .int _)]) d_Sharing_findAllowed_24 rfl (Nat.le_of_ble_eq_true rfl) rfl ?_
    refine aw_aload_n d_Sharing_findAllowed_25 rfl rfl ?_
    obtain ⟨t26, e_t26, h⟩ := q_bind h
    refine aw_gtr d_Sharing_findAllowed_26 fl_Sharing_18 (Or.inr ⟨_, rfl⟩) e_t26 ?_
    refine aw_iload_n d_Sharing_findAllowed_29 rfl rfl ?_
    refine aw_iconst (v := 0) d_Sharing_findAllowed_30 (by decide) ?_
    obtain ⟨M31, e_M31, h⟩ := q_bind h
    refine aw_sti d_Sharing_findAllowed_31 e_M31 ?_
    refine aw_iconst (v := 0) d_Sharing_findAllowed_32 (by decide) ?_
    refine aw_istore_n (ls' := [(3, .int _), (2, .ref _), (0, .ref _), (1, .int _)]) d_Sharing_findAllowed_33 rfl (Nat.le_of_ble_eq_true rfl) rfl ?_
    exact aw_pick [2, 3, 1, 0] rfl (ih_1 _ _ _ _ _ h)
set_option maxHeartbeats 4000000 in
theorem s_Sharing_findAllowed_1 {rc : Nat → Nat → Int32 → Nat → Int32 → am_M → Option (Unit × am_M)} {res : Unit} {M' : am_M} (ih_0 : ∀ (r0 : Nat) (x1 : Int32) (r2 : Nat) (x3 : Int32) (M : am_M), rc 0 r0 x1 r2 x3 M = some (res, M') → AW u_Sharing_findAllowed R_Sharing_findAllowed 0 0 2 [(0, .ref r0), (1, .int x1)] [] M (fun r M2 => r = .inl none ∧ M2 = M')) (ih_1 : ∀ (r0 : Nat) (x1 : Int32) (r2 : Nat) (x3 : Int32) (M : am_M), rc 1 r0 x1 r2 x3 M = some (res, M') → AW u_Sharing_findAllowed R_Sharing_findAllowed 0 0 34 [(0, .ref r0), (1, .int x1), (2, .ref r2), (3, .int x3)] [] M (fun r M2 => r = .inl none ∧ M2 = M')) (ih_2 : ∀ (r0 : Nat) (x1 : Int32) (r2 : Nat) (x3 : Int32) (M : am_M), rc 2 r0 x1 r2 x3 M = some (res, M') → AW u_Sharing_findAllowed R_Sharing_findAllowed 0 0 96 [(0, .ref r0), (1, .int x1), (2, .ref r2), (3, .int x3)] [] M (fun r M2 => r = .inl none ∧ M2 = M')) : ∀ (r0 : Nat) (x1 : Int32) (r2 : Nat) (x3 : Int32) (M : am_M), a_Sharing_findAllowed_1 rc r0 x1 r2 x3 M = some (res, M') → AW u_Sharing_findAllowed R_Sharing_findAllowed 0 0 34 [(0, .ref r0), (1, .int x1), (2, .ref r2), (3, .int x3)] [] M (fun r M2 => r = .inl none ∧ M2 = M') := by
  intro r0 x1 r2 x3 M h
  unfold a_Sharing_findAllowed_1 at h
  refine aw_iload_n d_Sharing_findAllowed_34 rfl rfl ?_
  refine aw_aload_n d_Sharing_findAllowed_35 rfl rfl ?_
  obtain ⟨t36, e_t36, h⟩ := q_bind h
  refine aw_gtr d_Sharing_findAllowed_36 fl_Sharing_35 (Or.inl ⟨_, rfl⟩) e_t36 ?_
  obtain ⟨t39, e_t39, h⟩ := q_bind h
  refine aw_gti d_Sharing_findAllowed_39 fl_Sharing_77 (Or.inl rfl) e_t39 ?_
  refine aw_icmp_ge (tgt := 102) d_Sharing_findAllowed_42 (by decide) (fun hc => ?_) (fun hc => ?_)
  · rw [if_pos hc] at h
    refine aw_iinc (v := (x1 + (1 : Int32))) (ls' := [(1, .int _), (0, .ref _), (2, .ref _), (3, .int _)]) d_Sharing_findAllowed_102 rfl rfl (Nat.le_of_ble_eq_true rfl) rfl ?_
    refine aw_goto (tgt := 2) d_Sharing_findAllowed_105 (by decide) ?_
    exact aw_pick [1, 0] rfl (ih_0 _ _ _ _ _ h)
  · rw [if_neg hc] at h
    refine aw_aload_n d_Sharing_findAllowed_45 rfl rfl ?_
    refine aw_iload_n d_Sharing_findAllowed_46 rfl rfl ?_
    obtain ⟨o47, e_o47, h⟩ := q_bind h
    obtain ⟨t47, e_t47, h⟩ := q_bind h
    refine aw_cV (v := (some (.ref t47))) (As := [.int x3]) (rest := []) (st' := [.ref t47]) d_Sharing_findAllowed_47 kV_Sharing_103 (q_ob_spec e_o47).1 (q_ob_spec e_o47).2 ⟨Nat.le_of_ble_eq_true rfl, Nat.le_of_ble_eq_true rfl, Nat.le_of_ble_eq_true rfl, Nat.le_of_ble_eq_true rfl⟩ rfl rfl (Nat.le_of_ble_eq_true rfl) rfl (mt_Sharing_workAt e_t47) ?_
    refine aw_astore (ls' := [(4, .ref _), (0, .ref _), (1, .int _), (2, .ref _), (3, .int _)]) d_Sharing_findAllowed_50 (Nat.le_of_ble_eq_true rfl) rfl ?_
    refine aw_aload d_Sharing_findAllowed_52 rfl ?_
    obtain ⟨t54, e_t54, h⟩ := q_bind h
    refine aw_gti d_Sharing_findAllowed_54 fl_Sharing_107 (Or.inl rfl) e_t54 ?_
    refine aw_aload_n d_Sharing_findAllowed_57 rfl rfl ?_
    obtain ⟨t58, e_t58, h⟩ := q_bind h
    refine aw_gti d_Sharing_findAllowed_58 fl_Sharing_112 (Or.inl rfl) e_t58 ?_
    refine aw_icmp_ne (tgt := 96) d_Sharing_findAllowed_61 (by decide) (fun hc => ?_) (fun hc => ?_)
    · rw [if_neg hc] at h
      exact aw_pick [1, 2, 3, 4] rfl (ih_2 _ _ _ _ _ h)
    · rw [if_pos hc] at h
      refine aw_aload_n d_Sharing_findAllowed_64 rfl rfl ?_
      refine aw_aload d_Sharing_findAllowed_65 rfl ?_
      refine aw_aload_n d_Sharing_findAllowed_67 rfl rfl ?_
      obtain ⟨t68, e_t68, h⟩ := q_bind h
      refine aw_gtr d_Sharing_findAllowed_68 fl_Sharing_27 (Or.inl ⟨_, rfl⟩) e_t68 ?_
      obtain ⟨t71, e_t71, h⟩ := q_bind h
      refine aw_gtr d_Sharing_findAllowed_71 fl_Sharing_113 (Or.inr ⟨_, rfl⟩) e_t71 ?_
      refine aw_bipush (v := 10) d_Sharing_findAllowed_74 (by decide) ?_
      obtain ⟨t76, e_t76, h⟩ := q_bind h
      refine aw_ldi d_Sharing_findAllowed_76 e_t76 ?_
      obtain ⟨o77, e_o77, h⟩ := q_bind h
      obtain ⟨t77, e_t77, h⟩ := q_bind h
      refine aw_cV (v := (some (.int t77))) (As := [.ref t47, .int t76]) (rest := []) (st' := [.int t77]) d_Sharing_findAllowed_77 kV_Sharing_116 (q_ob_spec e_o77).1 (q_ob_spec e_o77).2 ⟨Nat.le_of_ble_eq_true rfl, Nat.le_of_ble_eq_true rfl, Nat.le_of_ble_eq_true rfl, Nat.le_of_ble_eq_true rfl⟩ rfl rfl (Nat.le_of_ble_eq_true rfl) rfl (mt_Member_leastOwnBroken e_t77) ?_
      refine aw_if_ne (tgt := 96) d_Sharing_findAllowed_80 (by decide) (fun hc => ?_) (fun hc => ?_)
      · rw [if_neg hc] at h
        exact aw_pick [1, 2, 3, 4] rfl (ih_2 _ _ _ _ _ h)
      · rw [if_pos hc] at h
        refine aw_aload_n d_Sharing_findAllowed_83 rfl rfl ?_
        obtain ⟨t84, e_t84, h⟩ := q_bind h
        refine aw_gtr d_Sharing_findAllowed_84 fl_Sharing_18 (Or.inr ⟨_, rfl⟩) e_t84 ?_
        refine aw_iload_n d_Sharing_findAllowed_87 rfl rfl ?_
        refine aw_dup2 d_Sharing_findAllowed_88 rfl rfl ?_
        obtain ⟨t89, e_t89, h⟩ := q_bind h
        refine aw_ldi d_Sharing_findAllowed_89 e_t89 ?_
        refine aw_iload_n d_Sharing_findAllowed_90 rfl rfl ?_
        obtain ⟨t91, e_t91, h⟩ := q_bind h
        refine aw_cS (v := (some (.int t91))) (As := [.int x3]) (rest := [.int t89, .int x1, .ref t84]) (st' := [.int t91, .int t89, .int x1, .ref t84]) d_Sharing_findAllowed_91 kS_Sharing_56 ⟨Nat.le_of_ble_eq_true rfl, Nat.le_of_ble_eq_true rfl, Nat.le_of_ble_eq_true rfl, Nat.le_of_ble_eq_true rfl⟩ rfl rfl (Nat.le_of_ble_eq_true rfl) rfl (mt_Sharing_bitOf e_t91) ?_
        refine aw_ior d_Sharing_findAllowed_94 ?_
        obtain ⟨M95, e_M95, h⟩ := q_bind h
        refine aw_sti d_Sharing_findAllowed_95 e_M95 ?_
        exact aw_pick [1, 2, 3, 4] rfl (ih_2 _ _ _ _ _ h)
set_option maxHeartbeats 4000000 in
theorem s_Sharing_findAllowed_2 {rc : Nat → Nat → Int32 → Nat → Int32 → am_M → Option (Unit × am_M)} {res : Unit} {M' : am_M} (ih_0 : ∀ (r0 : Nat) (x1 : Int32) (r2 : Nat) (x3 : Int32) (M : am_M), rc 0 r0 x1 r2 x3 M = some (res, M') → AW u_Sharing_findAllowed R_Sharing_findAllowed 0 0 2 [(0, .ref r0), (1, .int x1)] [] M (fun r M2 => r = .inl none ∧ M2 = M')) (ih_1 : ∀ (r0 : Nat) (x1 : Int32) (r2 : Nat) (x3 : Int32) (M : am_M), rc 1 r0 x1 r2 x3 M = some (res, M') → AW u_Sharing_findAllowed R_Sharing_findAllowed 0 0 34 [(0, .ref r0), (1, .int x1), (2, .ref r2), (3, .int x3)] [] M (fun r M2 => r = .inl none ∧ M2 = M')) (ih_2 : ∀ (r0 : Nat) (x1 : Int32) (r2 : Nat) (x3 : Int32) (M : am_M), rc 2 r0 x1 r2 x3 M = some (res, M') → AW u_Sharing_findAllowed R_Sharing_findAllowed 0 0 96 [(0, .ref r0), (1, .int x1), (2, .ref r2), (3, .int x3)] [] M (fun r M2 => r = .inl none ∧ M2 = M')) : ∀ (r0 : Nat) (x1 : Int32) (r2 : Nat) (x3 : Int32) (M : am_M), a_Sharing_findAllowed_2 rc r0 x1 r2 x3 M = some (res, M') → AW u_Sharing_findAllowed R_Sharing_findAllowed 0 0 96 [(0, .ref r0), (1, .int x1), (2, .ref r2), (3, .int x3)] [] M (fun r M2 => r = .inl none ∧ M2 = M') := by
  intro r0 x1 r2 x3 M h
  unfold a_Sharing_findAllowed_2 at h
  refine aw_iinc (v := (x3 + (1 : Int32))) (ls' := [(3, .int _), (0, .ref _), (1, .int _), (2, .ref _)]) d_Sharing_findAllowed_96 rfl rfl (Nat.le_of_ble_eq_true rfl) rfl ?_
  refine aw_goto (tgt := 34) d_Sharing_findAllowed_99 (by decide) ?_
  exact aw_pick [1, 2, 3, 0] rfl (ih_1 _ _ _ _ _ h)
theorem l_Sharing_findAllowed {res : Unit} {M' : am_M} : ∀ F : Nat, (∀ (r0 : Nat) (x1 : Int32) (r2 : Nat) (x3 : Int32) (M : am_M), g_Sharing_findAllowed F 0 r0 x1 r2 x3 M = some (res, M') → AW u_Sharing_findAllowed R_Sharing_findAllowed 0 0 2 [(0, .ref r0), (1, .int x1)] [] M (fun r M2 => r = .inl none ∧ M2 = M')) ∧ (∀ (r0 : Nat) (x1 : Int32) (r2 : Nat) (x3 : Int32) (M : am_M), g_Sharing_findAllowed F 1 r0 x1 r2 x3 M = some (res, M') → AW u_Sharing_findAllowed R_Sharing_findAllowed 0 0 34 [(0, .ref r0), (1, .int x1), (2, .ref r2), (3, .int x3)] [] M (fun r M2 => r = .inl none ∧ M2 = M')) ∧ (∀ (r0 : Nat) (x1 : Int32) (r2 : Nat) (x3 : Int32) (M : am_M), g_Sharing_findAllowed F 2 r0 x1 r2 x3 M = some (res, M') → AW u_Sharing_findAllowed R_Sharing_findAllowed 0 0 96 [(0, .ref r0), (1, .int x1), (2, .ref r2), (3, .int x3)] [] M (fun r M2 => r = .inl none ∧ M2 = M')) := by
  intro F
  induction F with
  | zero => exact ⟨fun _ _ _ _ _  h => (by cases h), fun _ _ _ _ _  h => (by cases h), fun _ _ _ _ _  h => (by cases h)⟩
  | succ F ih =>
    obtain ⟨ih0, ih1, ih2⟩ := ih
    exact ⟨s_Sharing_findAllowed_0 ih0 ih1 ih2, s_Sharing_findAllowed_1 ih0 ih1 ih2, s_Sharing_findAllowed_2 ih0 ih1 ih2⟩
set_option maxHeartbeats 4000000 in
theorem mt_Sharing_findAllowed {M : am_M} {a0 : Nat} {res : Unit} {M' : am_M} (h : f_Sharing_findAllowed M a0 = some (res, M')) : AMet y_Sharing_findAllowed u_Sharing_findAllowed R_Sharing_findAllowed [.ref a0] M (fun r M2 => r = .inl none ∧ M2 = M') := by
  refine am_met (by decide +kernel) w_Sharing_findAllowed rfl rfl (Nat.le_of_ble_eq_true rfl) ?_
  show AW u_Sharing_findAllowed R_Sharing_findAllowed 0 0 0 [(0, .ref a0)] [] M (fun r M2 => r = .inl none ∧ M2 = M')
  have ih_0 := (l_Sharing_findAllowed (res := res) (M' := M') 1000000000).1
  have ih_1 := (l_Sharing_findAllowed (res := res) (M' := M') 1000000000).2.1
  have ih_2 := (l_Sharing_findAllowed (res := res) (M' := M') 1000000000).2.2
  unfold f_Sharing_findAllowed at h
  unfold e_Sharing_findAllowed at h
  generalize g_Sharing_findAllowed 1000000000 = rc at h ih_0 ih_1 ih_2
  refine aw_iconst (v := 0) d_Sharing_findAllowed_0 (by decide) ?_
  refine aw_istore_n (ls' := [(1, .int _), (0, .ref _)]) d_Sharing_findAllowed_1 rfl (Nat.le_of_ble_eq_true rfl) rfl ?_
  exact aw_pick [1, 0] rfl (ih_0 _ _ _ _ _ h)
def y_Sharing_areRivals : MethodName := ⟨"CrewOffice$Sharing", "areRivals", "(LCrewOffice$Work;LCrewOffice$Work;)Z"⟩
def u_Sharing_areRivals : am_U := ("CrewOffice$Sharing", "areRivals", prog_8_method_11_code, 4, (some .boolean), [])
def R_Sharing_areRivals : Room := { frames := 0, cells := 0, slots := 0, locals := 0 }
theorem d_Sharing_areRivals_0 : decode u_Sharing_areRivals.2.2.1 0 = .ok (.aload_n 0, 1) := by decide +kernel
theorem d_Sharing_areRivals_1 : decode u_Sharing_areRivals.2.2.1 1 = .ok (.getfield 27, 3) := by decide +kernel
theorem d_Sharing_areRivals_4 : decode u_Sharing_areRivals.2.2.1 4 = .ok (.getfield 113, 3) := by decide +kernel
theorem d_Sharing_areRivals_7 : decode u_Sharing_areRivals.2.2.1 7 = .ok (.iconst 4, 1) := by decide +kernel
theorem d_Sharing_areRivals_8 : decode u_Sharing_areRivals.2.2.1 8 = .ok (.iaload, 1) := by decide +kernel
theorem d_Sharing_areRivals_9 : decode u_Sharing_areRivals.2.2.1 9 = .ok (.istore_n 3, 1) := by decide +kernel
theorem d_Sharing_areRivals_10 : decode u_Sharing_areRivals.2.2.1 10 = .ok (.aload_n 1, 1) := by decide +kernel
theorem d_Sharing_areRivals_11 : decode u_Sharing_areRivals.2.2.1 11 = .ok (.getfield 124, 3) := by decide +kernel
theorem d_Sharing_areRivals_14 : decode u_Sharing_areRivals.2.2.1 14 = .ok (.aload_n 2, 1) := by decide +kernel
theorem d_Sharing_areRivals_15 : decode u_Sharing_areRivals.2.2.1 15 = .ok (.getfield 127, 3) := by decide +kernel
theorem d_Sharing_areRivals_18 : decode u_Sharing_areRivals.2.2.1 18 = .ok (.iload_n 3, 1) := by decide +kernel
theorem d_Sharing_areRivals_19 : decode u_Sharing_areRivals.2.2.1 19 = .ok (.iadd, 1) := by decide +kernel
theorem d_Sharing_areRivals_20 : decode u_Sharing_areRivals.2.2.1 20 = .ok (.if_icmp .ge 20, 3) := by decide +kernel
theorem d_Sharing_areRivals_23 : decode u_Sharing_areRivals.2.2.1 23 = .ok (.aload_n 2, 1) := by decide +kernel
theorem d_Sharing_areRivals_24 : decode u_Sharing_areRivals.2.2.1 24 = .ok (.getfield 124, 3) := by decide +kernel
theorem d_Sharing_areRivals_27 : decode u_Sharing_areRivals.2.2.1 27 = .ok (.aload_n 1, 1) := by decide +kernel
theorem d_Sharing_areRivals_28 : decode u_Sharing_areRivals.2.2.1 28 = .ok (.getfield 127, 3) := by decide +kernel
theorem d_Sharing_areRivals_31 : decode u_Sharing_areRivals.2.2.1 31 = .ok (.iload_n 3, 1) := by decide +kernel
theorem d_Sharing_areRivals_32 : decode u_Sharing_areRivals.2.2.1 32 = .ok (.iadd, 1) := by decide +kernel
theorem d_Sharing_areRivals_33 : decode u_Sharing_areRivals.2.2.1 33 = .ok (.if_icmp .ge 7, 3) := by decide +kernel
theorem d_Sharing_areRivals_36 : decode u_Sharing_areRivals.2.2.1 36 = .ok (.iconst 1, 1) := by decide +kernel
theorem d_Sharing_areRivals_37 : decode u_Sharing_areRivals.2.2.1 37 = .ok (.goto 4, 3) := by decide +kernel
theorem d_Sharing_areRivals_40 : decode u_Sharing_areRivals.2.2.1 40 = .ok (.iconst 0, 1) := by decide +kernel
theorem d_Sharing_areRivals_41 : decode u_Sharing_areRivals.2.2.1 41 = .ok (.ireturn, 1) := by decide +kernel
theorem w_Sharing_areRivals : am_code y_Sharing_areRivals u_Sharing_areRivals ∈ am_ws := am_mem (List.mem_of_getElem? (i := 921) (by decide +kernel)) rfl
def e_Sharing_areRivals (M : am_M) (a0 : Nat) (a1 : Nat) (a2 : Nat) : Option (Int32) := (q_gtr M a0 8 0).bind (fun t1 => (q_gtr M t1 3 3).bind (fun t4 => (q_ldi M t4 (4 : Int32)).bind (fun t8 => (q_gti M a1 4 3).bind (fun t11 => (q_gti M a2 4 4).bind (fun t15 => if (t15 + t8) ≤ t11 then (some (0 : Int32)) else ((q_gti M a2 4 3).bind (fun t24 => (q_gti M a1 4 4).bind (fun t28 => if (t28 + t8) ≤ t24 then (some (0 : Int32)) else (some (1 : Int32))))))))))
def f_Sharing_areRivals (M : am_M) (a0 : Nat) (a1 : Nat) (a2 : Nat) : Option (Int32) := e_Sharing_areRivals M a0 a1 a2
theorem fl_Sharing_124 : am_fl "CrewOffice$Sharing" 124 4 3 := ⟨by decide, by decide, List.mem_of_getElem? (i := 275) (by decide +kernel)⟩
theorem fl_Sharing_127 : am_fl "CrewOffice$Sharing" 127 4 4 := ⟨by decide, by decide, List.mem_of_getElem? (i := 281) (by decide +kernel)⟩
set_option maxHeartbeats 4000000 in
theorem mt_Sharing_areRivals {M : am_M} {a0 : Nat} {a1 : Nat} {a2 : Nat} {res : Int32} (h : f_Sharing_areRivals M a0 a1 a2 = some res) : AMet y_Sharing_areRivals u_Sharing_areRivals R_Sharing_areRivals [.ref a0, .ref a1, .ref a2] M (fun r M2 => r = .inl (some (.int res)) ∧ M2 = M) := by
  refine am_met (by decide +kernel) w_Sharing_areRivals rfl rfl (Nat.le_of_ble_eq_true rfl) ?_
  show AW u_Sharing_areRivals R_Sharing_areRivals 0 0 0 [(0, .ref a0), (1, .ref a1), (2, .ref a2)] [] M (fun r M2 => r = .inl (some (.int res)) ∧ M2 = M)
  unfold f_Sharing_areRivals at h
  unfold e_Sharing_areRivals at h
  refine aw_aload_n d_Sharing_areRivals_0 rfl rfl ?_
  obtain ⟨t1, e_t1, h⟩ := q_bind h
  refine aw_gtr d_Sharing_areRivals_1 fl_Sharing_27 (Or.inl ⟨_, rfl⟩) e_t1 ?_
  obtain ⟨t4, e_t4, h⟩ := q_bind h
  refine aw_gtr d_Sharing_areRivals_4 fl_Sharing_113 (Or.inr ⟨_, rfl⟩) e_t4 ?_
  refine aw_iconst (v := 4) d_Sharing_areRivals_7 (by decide) ?_
  obtain ⟨t8, e_t8, h⟩ := q_bind h
  refine aw_ldi d_Sharing_areRivals_8 e_t8 ?_
  refine aw_istore_n (ls' := [(3, .int _), (0, .ref _), (1, .ref _), (2, .ref _)]) d_Sharing_areRivals_9 rfl (Nat.le_of_ble_eq_true rfl) rfl ?_
  refine aw_aload_n d_Sharing_areRivals_10 rfl rfl ?_
  obtain ⟨t11, e_t11, h⟩ := q_bind h
  refine aw_gti d_Sharing_areRivals_11 fl_Sharing_124 (Or.inl rfl) e_t11 ?_
  refine aw_aload_n d_Sharing_areRivals_14 rfl rfl ?_
  obtain ⟨t15, e_t15, h⟩ := q_bind h
  refine aw_gti d_Sharing_areRivals_15 fl_Sharing_127 (Or.inl rfl) e_t15 ?_
  refine aw_iload_n d_Sharing_areRivals_18 rfl rfl ?_
  refine aw_iadd d_Sharing_areRivals_19 ?_
  refine aw_icmp_ge (tgt := 40) d_Sharing_areRivals_20 (by decide) (fun hc => ?_) (fun hc => ?_)
  · rw [if_pos hc] at h
    refine aw_iconst (v := 0) d_Sharing_areRivals_40 (by decide) ?_
    cases h
    exact aw_zreturn d_Sharing_areRivals_41 rfl (by decide) (Nat.le_of_ble_eq_true rfl) (Nat.le_of_ble_eq_true rfl) ⟨rfl, rfl⟩
  · rw [if_neg hc] at h
    refine aw_aload_n d_Sharing_areRivals_23 rfl rfl ?_
    obtain ⟨t24, e_t24, h⟩ := q_bind h
    refine aw_gti d_Sharing_areRivals_24 fl_Sharing_124 (Or.inl rfl) e_t24 ?_
    refine aw_aload_n d_Sharing_areRivals_27 rfl rfl ?_
    obtain ⟨t28, e_t28, h⟩ := q_bind h
    refine aw_gti d_Sharing_areRivals_28 fl_Sharing_127 (Or.inl rfl) e_t28 ?_
    refine aw_iload_n d_Sharing_areRivals_31 rfl rfl ?_
    refine aw_iadd d_Sharing_areRivals_32 ?_
    refine aw_icmp_ge (tgt := 40) d_Sharing_areRivals_33 (by decide) (fun hc => ?_) (fun hc => ?_)
    · rw [if_pos hc] at h
      refine aw_iconst (v := 0) d_Sharing_areRivals_40 (by decide) ?_
      cases h
      exact aw_zreturn d_Sharing_areRivals_41 rfl (by decide) (Nat.le_of_ble_eq_true rfl) (Nat.le_of_ble_eq_true rfl) ⟨rfl, rfl⟩
    · rw [if_neg hc] at h
      refine aw_iconst (v := 1) d_Sharing_areRivals_36 (by decide) ?_
      refine aw_goto (tgt := 41) d_Sharing_areRivals_37 (by decide) ?_
      cases h
      exact aw_zreturn d_Sharing_areRivals_41 rfl (by decide) (Nat.le_of_ble_eq_true rfl) (Nat.le_of_ble_eq_true rfl) ⟨rfl, rfl⟩
def y_Sharing_fits : MethodName := ⟨"CrewOffice$Sharing", "fits", "(II)Z"⟩
def u_Sharing_fits : am_U := ("CrewOffice$Sharing", "fits", prog_8_method_13_code, 5, (some .boolean), [])
def R_Sharing_fits : Room := { frames := 1, cells := 0, slots := 0, locals := 21 }
theorem d_Sharing_fits_0 : decode u_Sharing_fits.2.2.1 0 = .ok (.iload_n 2, 1) := by decide +kernel
theorem d_Sharing_fits_1 : decode u_Sharing_fits.2.2.1 1 = .ok (.aload_n 0, 1) := by decide +kernel
theorem d_Sharing_fits_2 : decode u_Sharing_fits.2.2.1 2 = .ok (.getfield 18, 3) := by decide +kernel
theorem d_Sharing_fits_5 : decode u_Sharing_fits.2.2.1 5 = .ok (.iload_n 1, 1) := by decide +kernel
theorem d_Sharing_fits_6 : decode u_Sharing_fits.2.2.1 6 = .ok (.iaload, 1) := by decide +kernel
theorem d_Sharing_fits_7 : decode u_Sharing_fits.2.2.1 7 = .ok (.iconst (-1), 1) := by decide +kernel
theorem d_Sharing_fits_8 : decode u_Sharing_fits.2.2.1 8 = .ok (.ixor, 1) := by decide +kernel
theorem d_Sharing_fits_9 : decode u_Sharing_fits.2.2.1 9 = .ok (.iand, 1) := by decide +kernel
theorem d_Sharing_fits_10 : decode u_Sharing_fits.2.2.1 10 = .ok (.ifCond .eq 5, 3) := by decide +kernel
theorem d_Sharing_fits_13 : decode u_Sharing_fits.2.2.1 13 = .ok (.iconst 0, 1) := by decide +kernel
theorem d_Sharing_fits_14 : decode u_Sharing_fits.2.2.1 14 = .ok (.ireturn, 1) := by decide +kernel
theorem d_Sharing_fits_15 : decode u_Sharing_fits.2.2.1 15 = .ok (.iconst 0, 1) := by decide +kernel
theorem d_Sharing_fits_16 : decode u_Sharing_fits.2.2.1 16 = .ok (.istore_n 3, 1) := by decide +kernel
theorem d_Sharing_fits_17 : decode u_Sharing_fits.2.2.1 17 = .ok (.iconst 0, 1) := by decide +kernel
theorem d_Sharing_fits_18 : decode u_Sharing_fits.2.2.1 18 = .ok (.istore 4, 2) := by decide +kernel
theorem d_Sharing_fits_20 : decode u_Sharing_fits.2.2.1 20 = .ok (.iload 4, 2) := by decide +kernel
theorem d_Sharing_fits_22 : decode u_Sharing_fits.2.2.1 22 = .ok (.aload_n 0, 1) := by decide +kernel
theorem d_Sharing_fits_23 : decode u_Sharing_fits.2.2.1 23 = .ok (.getfield 35, 3) := by decide +kernel
theorem d_Sharing_fits_26 : decode u_Sharing_fits.2.2.1 26 = .ok (.getfield 77, 3) := by decide +kernel
theorem d_Sharing_fits_29 : decode u_Sharing_fits.2.2.1 29 = .ok (.if_icmp .ge 45, 3) := by decide +kernel
theorem d_Sharing_fits_32 : decode u_Sharing_fits.2.2.1 32 = .ok (.iload_n 2, 1) := by decide +kernel
theorem d_Sharing_fits_33 : decode u_Sharing_fits.2.2.1 33 = .ok (.iload 4, 2) := by decide +kernel
theorem d_Sharing_fits_35 : decode u_Sharing_fits.2.2.1 35 = .ok (.invokestatic 56, 3) := by decide +kernel
theorem d_Sharing_fits_38 : decode u_Sharing_fits.2.2.1 38 = .ok (.iand, 1) := by decide +kernel
theorem d_Sharing_fits_39 : decode u_Sharing_fits.2.2.1 39 = .ok (.ifCond .eq 29, 3) := by decide +kernel
theorem d_Sharing_fits_42 : decode u_Sharing_fits.2.2.1 42 = .ok (.iload_n 2, 1) := by decide +kernel
theorem d_Sharing_fits_43 : decode u_Sharing_fits.2.2.1 43 = .ok (.aload_n 0, 1) := by decide +kernel
theorem d_Sharing_fits_44 : decode u_Sharing_fits.2.2.1 44 = .ok (.getfield 24, 3) := by decide +kernel
theorem d_Sharing_fits_47 : decode u_Sharing_fits.2.2.1 47 = .ok (.iload 4, 2) := by decide +kernel
theorem d_Sharing_fits_49 : decode u_Sharing_fits.2.2.1 49 = .ok (.iaload, 1) := by decide +kernel
theorem d_Sharing_fits_50 : decode u_Sharing_fits.2.2.1 50 = .ok (.iand, 1) := by decide +kernel
theorem d_Sharing_fits_51 : decode u_Sharing_fits.2.2.1 51 = .ok (.ifCond .eq 5, 3) := by decide +kernel
theorem d_Sharing_fits_54 : decode u_Sharing_fits.2.2.1 54 = .ok (.iconst 0, 1) := by decide +kernel
theorem d_Sharing_fits_55 : decode u_Sharing_fits.2.2.1 55 = .ok (.ireturn, 1) := by decide +kernel
theorem d_Sharing_fits_56 : decode u_Sharing_fits.2.2.1 56 = .ok (.iload_n 3, 1) := by decide +kernel
theorem d_Sharing_fits_57 : decode u_Sharing_fits.2.2.1 57 = .ok (.aload_n 0, 1) := by decide +kernel
theorem d_Sharing_fits_58 : decode u_Sharing_fits.2.2.1 58 = .ok (.iload 4, 2) := by decide +kernel
theorem d_Sharing_fits_60 : decode u_Sharing_fits.2.2.1 60 = .ok (.invokevirtual 103, 3) := by decide +kernel
theorem d_Sharing_fits_63 : decode u_Sharing_fits.2.2.1 63 = .ok (.getfield 142, 3) := by decide +kernel
theorem d_Sharing_fits_66 : decode u_Sharing_fits.2.2.1 66 = .ok (.iadd, 1) := by decide +kernel
theorem d_Sharing_fits_67 : decode u_Sharing_fits.2.2.1 67 = .ok (.istore_n 3, 1) := by decide +kernel
theorem d_Sharing_fits_68 : decode u_Sharing_fits.2.2.1 68 = .ok (.iinc 4 1, 3) := by decide +kernel
theorem d_Sharing_fits_71 : decode u_Sharing_fits.2.2.1 71 = .ok (.goto (-51), 3) := by decide +kernel
theorem d_Sharing_fits_74 : decode u_Sharing_fits.2.2.1 74 = .ok (.iload_n 2, 1) := by decide +kernel
theorem d_Sharing_fits_75 : decode u_Sharing_fits.2.2.1 75 = .ok (.ifCond .eq 35, 3) := by decide +kernel
theorem d_Sharing_fits_78 : decode u_Sharing_fits.2.2.1 78 = .ok (.aload_n 0, 1) := by decide +kernel
theorem d_Sharing_fits_79 : decode u_Sharing_fits.2.2.1 79 = .ok (.getfield 27, 3) := by decide +kernel
theorem d_Sharing_fits_82 : decode u_Sharing_fits.2.2.1 82 = .ok (.getfield 88, 3) := by decide +kernel
theorem d_Sharing_fits_85 : decode u_Sharing_fits.2.2.1 85 = .ok (.aload_n 0, 1) := by decide +kernel
theorem d_Sharing_fits_86 : decode u_Sharing_fits.2.2.1 86 = .ok (.getfield 15, 3) := by decide +kernel
theorem d_Sharing_fits_89 : decode u_Sharing_fits.2.2.1 89 = .ok (.iload_n 1, 1) := by decide +kernel
theorem d_Sharing_fits_90 : decode u_Sharing_fits.2.2.1 90 = .ok (.iaload, 1) := by decide +kernel
theorem d_Sharing_fits_91 : decode u_Sharing_fits.2.2.1 91 = .ok (.aaload, 1) := by decide +kernel
theorem d_Sharing_fits_92 : decode u_Sharing_fits.2.2.1 92 = .ok (.getfield 145, 3) := by decide +kernel
theorem d_Sharing_fits_95 : decode u_Sharing_fits.2.2.1 95 = .ok (.iload_n 3, 1) := by decide +kernel
theorem d_Sharing_fits_96 : decode u_Sharing_fits.2.2.1 96 = .ok (.iadd, 1) := by decide +kernel
theorem d_Sharing_fits_97 : decode u_Sharing_fits.2.2.1 97 = .ok (.aload_n 0, 1) := by decide +kernel
theorem d_Sharing_fits_98 : decode u_Sharing_fits.2.2.1 98 = .ok (.getfield 27, 3) := by decide +kernel
theorem d_Sharing_fits_101 : decode u_Sharing_fits.2.2.1 101 = .ok (.getfield 113, 3) := by decide +kernel
theorem d_Sharing_fits_104 : decode u_Sharing_fits.2.2.1 104 = .ok (.bipush 10, 2) := by decide +kernel
theorem d_Sharing_fits_106 : decode u_Sharing_fits.2.2.1 106 = .ok (.iaload, 1) := by decide +kernel
theorem d_Sharing_fits_107 : decode u_Sharing_fits.2.2.1 107 = .ok (.if_icmp .gt 7, 3) := by decide +kernel
theorem d_Sharing_fits_110 : decode u_Sharing_fits.2.2.1 110 = .ok (.iconst 1, 1) := by decide +kernel
theorem d_Sharing_fits_111 : decode u_Sharing_fits.2.2.1 111 = .ok (.goto 4, 3) := by decide +kernel
theorem d_Sharing_fits_114 : decode u_Sharing_fits.2.2.1 114 = .ok (.iconst 0, 1) := by decide +kernel
theorem d_Sharing_fits_115 : decode u_Sharing_fits.2.2.1 115 = .ok (.ireturn, 1) := by decide +kernel
theorem w_Sharing_fits : am_code y_Sharing_fits u_Sharing_fits ∈ am_ws := am_mem (List.mem_of_getElem? (i := 929) (by decide +kernel)) rfl
def a_Sharing_fits_0 (rc : Nat → Nat → Int32 → Int32 → Int32 → Int32 → am_M → Option (Int32)) (r0 : Nat) (x1 : Int32) (x2 : Int32) (x3 : Int32) (x4 : Int32) (M : am_M) : Option (Int32) := (q_gtr M r0 8 2).bind (fun t23 => (q_gti M t23 7 3).bind (fun t26 => if t26 ≤ x4 then (if x2 = 0 then (rc 2 0 0 0 0 0 M) else ((q_gtr M r0 8 0).bind (fun t79 => (q_gtr M t79 3 2).bind (fun t82 => (q_gtr M r0 8 4).bind (fun t86 => (q_ldi M t86 x1).bind (fun t90 => (q_ldr M t82 t90).bind (fun t91 => (q_gti M t91 2 4).bind (fun t92 => (q_gtr M r0 8 0).bind (fun t98 => (q_gtr M t98 3 3).bind (fun t101 => (q_ldi M t101 (10 : Int32)).bind (fun t106 => if t106 < (t92 + x3) then (some (0 : Int32)) else (rc 2 0 0 0 0 0 M)))))))))))) else ((f_Sharing_bitOf M x4).bind (fun t35 => if (x2 &&& t35) = 0 then (rc 1 r0 x1 x2 x3 x4 M) else ((q_gtr M r0 8 8).bind (fun t44 => (q_ldi M t44 x4).bind (fun t49 => if (x2 &&& t49) = 0 then ((q_ob M r0 8).bind (fun o60 => (f_Sharing_workAt M r0 x4).bind (fun t60 => (q_gti M t60 4 5).bind (fun t63 => rc 1 r0 x1 x2 (x3 + t63) x4 M)))) else (some (0 : Int32)))))))))
def a_Sharing_fits_1 (rc : Nat → Nat → Int32 → Int32 → Int32 → Int32 → am_M → Option (Int32)) (r0 : Nat) (x1 : Int32) (x2 : Int32) (x3 : Int32) (x4 : Int32) (M : am_M) : Option (Int32) := rc 0 r0 x1 x2 x3 (x4 + (1 : Int32)) M
def a_Sharing_fits_2 (rc : Nat → Nat → Int32 → Int32 → Int32 → Int32 → am_M → Option (Int32)) (r0 : Nat) (x1 : Int32) (x2 : Int32) (x3 : Int32) (x4 : Int32) (M : am_M) : Option (Int32) := some (1 : Int32)
def g_Sharing_fits : Nat → Nat → Nat → Int32 → Int32 → Int32 → Int32 → am_M → Option (Int32)
  | 0, _, _, _, _, _, _, _ => none
  | F + 1, 0, r0, x1, x2, x3, x4, M => a_Sharing_fits_0 (g_Sharing_fits F) r0 x1 x2 x3 x4 M
  | F + 1, 1, r0, x1, x2, x3, x4, M => a_Sharing_fits_1 (g_Sharing_fits F) r0 x1 x2 x3 x4 M
  | F + 1, 2, r0, x1, x2, x3, x4, M => a_Sharing_fits_2 (g_Sharing_fits F) r0 x1 x2 x3 x4 M
  | _ + 1, _ + 3, _, _, _, _, _, _ => none
def e_Sharing_fits (rc : Nat → Nat → Int32 → Int32 → Int32 → Int32 → am_M → Option (Int32)) (M : am_M) (a0 : Nat) (a1 : Int32) (a2 : Int32) : Option (Int32) := (q_gtr M a0 8 6).bind (fun t2 => (q_ldi M t2 a1).bind (fun t6 => if (a2 &&& (t6 ^^^ (-1 : Int32))) = 0 then (rc 0 a0 a1 a2 (0 : Int32) (0 : Int32) M) else (some (0 : Int32))))
def f_Sharing_fits (M : am_M) (a0 : Nat) (a1 : Int32) (a2 : Int32) : Option (Int32) := e_Sharing_fits (g_Sharing_fits 1000000000) M a0 a1 a2
theorem fl_Sharing_24 : am_fl "CrewOffice$Sharing" 24 8 8 := ⟨by decide, by decide, List.mem_of_getElem? (i := 409) (by decide +kernel)⟩
theorem fl_Sharing_142 : am_fl "CrewOffice$Sharing" 142 4 5 := ⟨by decide, by decide, List.mem_of_getElem? (i := 286) (by decide +kernel)⟩
theorem fl_Sharing_145 : am_fl "CrewOffice$Sharing" 145 2 4 := ⟨by decide, by decide, List.mem_of_getElem? (i := 177) (by decide +kernel)⟩
set_option maxHeartbeats 4000000 in
theorem s_Sharing_fits_0 {rc : Nat → Nat → Int32 → Int32 → Int32 → Int32 → am_M → Option (Int32)} {res : Int32} (ih_0 : ∀ (r0 : Nat) (x1 : Int32) (x2 : Int32) (x3 : Int32) (x4 : Int32) (M : am_M), rc 0 r0 x1 x2 x3 x4 M = some res → AW u_Sharing_fits R_Sharing_fits 0 0 20 [(0, .ref r0), (1, .int x1), (2, .int x2), (3, .int x3), (4, .int x4)] [] M (fun r M2 => r = .inl (some (.int res)) ∧ M2 = M)) (ih_1 : ∀ (r0 : Nat) (x1 : Int32) (x2 : Int32) (x3 : Int32) (x4 : Int32) (M : am_M), rc 1 r0 x1 x2 x3 x4 M = some res → AW u_Sharing_fits R_Sharing_fits 0 0 68 [(0, .ref r0), (1, .int x1), (2, .int x2), (3, .int x3), (4, .int x4)] [] M (fun r M2 => r = .inl (some (.int res)) ∧ M2 = M)) (ih_2 : ∀ (r0 : Nat) (x1 : Int32) (x2 : Int32) (x3 : Int32) (x4 : Int32) (M : am_M), rc 2 r0 x1 x2 x3 x4 M = some res → AW u_Sharing_fits R_Sharing_fits 0 0 110 [] [] M (fun r M2 => r = .inl (some (.int res)) ∧ M2 = M)) : ∀ (r0 : Nat) (x1 : Int32) (x2 : Int32) (x3 : Int32) (x4 : Int32) (M : am_M), a_Sharing_fits_0 rc r0 x1 x2 x3 x4 M = some res → AW u_Sharing_fits R_Sharing_fits 0 0 20 [(0, .ref r0), (1, .int x1), (2, .int x2), (3, .int x3), (4, .int x4)] [] M (fun r M2 => r = .inl (some (.int res)) ∧ M2 = M) := by
  intro r0 x1 x2 x3 x4 M h
  unfold a_Sharing_fits_0 at h
  refine aw_iload d_Sharing_fits_20 rfl ?_
  refine aw_aload_n d_Sharing_fits_22 rfl rfl ?_
  obtain ⟨t23, e_t23, h⟩ := q_bind h
  refine aw_gtr d_Sharing_fits_23 fl_Sharing_35 (Or.inl ⟨_, rfl⟩) e_t23 ?_
  obtain ⟨t26, e_t26, h⟩ := q_bind h
  refine aw_gti d_Sharing_fits_26 fl_Sharing_77 (Or.inl rfl) e_t26 ?_
  refine aw_icmp_ge (tgt := 74) d_Sharing_fits_29 (by decide) (fun hc => ?_) (fun hc => ?_)
  · rw [if_pos hc] at h
    refine aw_iload_n d_Sharing_fits_74 rfl rfl ?_
    refine aw_if_eq (tgt := 110) d_Sharing_fits_75 (by decide) (fun hc => ?_) (fun hc => ?_)
    · rw [if_pos hc] at h
      exact aw_pick [] rfl (ih_2 _ _ _ _ _ _ h)
    · rw [if_neg hc] at h
      refine aw_aload_n d_Sharing_fits_78 rfl rfl ?_
      obtain ⟨t79, e_t79, h⟩ := q_bind h
      refine aw_gtr d_Sharing_fits_79 fl_Sharing_27 (Or.inl ⟨_, rfl⟩) e_t79 ?_
      obtain ⟨t82, e_t82, h⟩ := q_bind h
      refine aw_gtr d_Sharing_fits_82 fl_Sharing_88 (Or.inr ⟨_, rfl⟩) e_t82 ?_
      refine aw_aload_n d_Sharing_fits_85 rfl rfl ?_
      obtain ⟨t86, e_t86, h⟩ := q_bind h
      refine aw_gtr d_Sharing_fits_86 fl_Sharing_15 (Or.inr ⟨_, rfl⟩) e_t86 ?_
      refine aw_iload_n d_Sharing_fits_89 rfl rfl ?_
      obtain ⟨t90, e_t90, h⟩ := q_bind h
      refine aw_ldi d_Sharing_fits_90 e_t90 ?_
      obtain ⟨t91, e_t91, h⟩ := q_bind h
      refine aw_ldr d_Sharing_fits_91 e_t91 ?_
      obtain ⟨t92, e_t92, h⟩ := q_bind h
      refine aw_gti d_Sharing_fits_92 fl_Sharing_145 (Or.inl rfl) e_t92 ?_
      refine aw_iload_n d_Sharing_fits_95 rfl rfl ?_
      refine aw_iadd d_Sharing_fits_96 ?_
      refine aw_aload_n d_Sharing_fits_97 rfl rfl ?_
      obtain ⟨t98, e_t98, h⟩ := q_bind h
      refine aw_gtr d_Sharing_fits_98 fl_Sharing_27 (Or.inl ⟨_, rfl⟩) e_t98 ?_
      obtain ⟨t101, e_t101, h⟩ := q_bind h
      refine aw_gtr d_Sharing_fits_101 fl_Sharing_113 (Or.inr ⟨_, rfl⟩) e_t101 ?_
      refine aw_bipush (v := 10) d_Sharing_fits_104 (by decide) ?_
      obtain ⟨t106, e_t106, h⟩ := q_bind h
      refine aw_ldi d_Sharing_fits_106 e_t106 ?_
      refine aw_icmp_gt (tgt := 114) d_Sharing_fits_107 (by decide) (fun hc => ?_) (fun hc => ?_)
      · rw [if_pos hc] at h
        refine aw_iconst (v := 0) d_Sharing_fits_114 (by decide) ?_
        cases h
        exact aw_zreturn d_Sharing_fits_115 rfl (by decide) (Nat.le_of_ble_eq_true rfl) (Nat.le_of_ble_eq_true rfl) ⟨rfl, rfl⟩
      · rw [if_neg hc] at h
        exact aw_pick [] rfl (ih_2 _ _ _ _ _ _ h)
  · rw [if_neg hc] at h
    refine aw_iload_n d_Sharing_fits_32 rfl rfl ?_
    refine aw_iload d_Sharing_fits_33 rfl ?_
    obtain ⟨t35, e_t35, h⟩ := q_bind h
    refine aw_cS (v := (some (.int t35))) (As := [.int x4]) (rest := [.int x2]) (st' := [.int t35, .int x2]) d_Sharing_fits_35 kS_Sharing_56 ⟨Nat.le_of_ble_eq_true rfl, Nat.le_of_ble_eq_true rfl, Nat.le_of_ble_eq_true rfl, Nat.le_of_ble_eq_true rfl⟩ rfl rfl (Nat.le_of_ble_eq_true rfl) rfl (mt_Sharing_bitOf e_t35) ?_
    refine aw_iand d_Sharing_fits_38 ?_
    refine aw_if_eq (tgt := 68) d_Sharing_fits_39 (by decide) (fun hc => ?_) (fun hc => ?_)
    · rw [if_pos hc] at h
      exact aw_pick [0, 1, 2, 3, 4] rfl (ih_1 _ _ _ _ _ _ h)
    · rw [if_neg hc] at h
      refine aw_iload_n d_Sharing_fits_42 rfl rfl ?_
      refine aw_aload_n d_Sharing_fits_43 rfl rfl ?_
      obtain ⟨t44, e_t44, h⟩ := q_bind h
      refine aw_gtr d_Sharing_fits_44 fl_Sharing_24 (Or.inr ⟨_, rfl⟩) e_t44 ?_
      refine aw_iload d_Sharing_fits_47 rfl ?_
      obtain ⟨t49, e_t49, h⟩ := q_bind h
      refine aw_ldi d_Sharing_fits_49 e_t49 ?_
      refine aw_iand d_Sharing_fits_50 ?_
      refine aw_if_eq (tgt := 56) d_Sharing_fits_51 (by decide) (fun hc => ?_) (fun hc => ?_)
      · rw [if_pos hc] at h
        refine aw_iload_n d_Sharing_fits_56 rfl rfl ?_
        refine aw_aload_n d_Sharing_fits_57 rfl rfl ?_
        refine aw_iload d_Sharing_fits_58 rfl ?_
        obtain ⟨o60, e_o60, h⟩ := q_bind h
        obtain ⟨t60, e_t60, h⟩ := q_bind h
        refine aw_cV (v := (some (.ref t60))) (As := [.int x4]) (rest := [.int x3]) (st' := [.ref t60, .int x3]) d_Sharing_fits_60 kV_Sharing_103 (q_ob_spec e_o60).1 (q_ob_spec e_o60).2 ⟨Nat.le_of_ble_eq_true rfl, Nat.le_of_ble_eq_true rfl, Nat.le_of_ble_eq_true rfl, Nat.le_of_ble_eq_true rfl⟩ rfl rfl (Nat.le_of_ble_eq_true rfl) rfl (mt_Sharing_workAt e_t60) ?_
        obtain ⟨t63, e_t63, h⟩ := q_bind h
        refine aw_gti d_Sharing_fits_63 fl_Sharing_142 (Or.inl rfl) e_t63 ?_
        refine aw_iadd d_Sharing_fits_66 ?_
        refine aw_istore_n (ls' := [(3, .int _), (0, .ref _), (1, .int _), (2, .int _), (4, .int _)]) d_Sharing_fits_67 rfl (Nat.le_of_ble_eq_true rfl) rfl ?_
        exact aw_pick [1, 2, 3, 0, 4] rfl (ih_1 _ _ _ _ _ _ h)
      · rw [if_neg hc] at h
        refine aw_iconst (v := 0) d_Sharing_fits_54 (by decide) ?_
        cases h
        exact aw_zreturn d_Sharing_fits_55 rfl (by decide) (Nat.le_of_ble_eq_true rfl) (Nat.le_of_ble_eq_true rfl) ⟨rfl, rfl⟩
set_option maxHeartbeats 4000000 in
theorem s_Sharing_fits_1 {rc : Nat → Nat → Int32 → Int32 → Int32 → Int32 → am_M → Option (Int32)} {res : Int32} (ih_0 : ∀ (r0 : Nat) (x1 : Int32) (x2 : Int32) (x3 : Int32) (x4 : Int32) (M : am_M), rc 0 r0 x1 x2 x3 x4 M = some res → AW u_Sharing_fits R_Sharing_fits 0 0 20 [(0, .ref r0), (1, .int x1), (2, .int x2), (3, .int x3), (4, .int x4)] [] M (fun r M2 => r = .inl (some (.int res)) ∧ M2 = M)) (ih_1 : ∀ (r0 : Nat) (x1 : Int32) (x2 : Int32) (x3 : Int32) (x4 : Int32) (M : am_M), rc 1 r0 x1 x2 x3 x4 M = some res → AW u_Sharing_fits R_Sharing_fits 0 0 68 [(0, .ref r0), (1, .int x1), (2, .int x2), (3, .int x3), (4, .int x4)] [] M (fun r M2 => r = .inl (some (.int res)) ∧ M2 = M)) (ih_2 : ∀ (r0 : Nat) (x1 : Int32) (x2 : Int32) (x3 : Int32) (x4 : Int32) (M : am_M), rc 2 r0 x1 x2 x3 x4 M = some res → AW u_Sharing_fits R_Sharing_fits 0 0 110 [] [] M (fun r M2 => r = .inl (some (.int res)) ∧ M2 = M)) : ∀ (r0 : Nat) (x1 : Int32) (x2 : Int32) (x3 : Int32) (x4 : Int32) (M : am_M), a_Sharing_fits_1 rc r0 x1 x2 x3 x4 M = some res → AW u_Sharing_fits R_Sharing_fits 0 0 68 [(0, .ref r0), (1, .int x1), (2, .int x2), (3, .int x3), (4, .int x4)] [] M (fun r M2 => r = .inl (some (.int res)) ∧ M2 = M) := by
  intro r0 x1 x2 x3 x4 M h
  unfold a_Sharing_fits_1 at h
  refine aw_iinc (v := (x4 + (1 : Int32))) (ls' := [(4, .int _), (0, .ref _), (1, .int _), (2, .int _), (3, .int _)]) d_Sharing_fits_68 rfl rfl (Nat.le_of_ble_eq_true rfl) rfl ?_
  refine aw_goto (tgt := 20) d_Sharing_fits_71 (by decide) ?_
  exact aw_pick [1, 2, 3, 4, 0] rfl (ih_0 _ _ _ _ _ _ h)
set_option maxHeartbeats 4000000 in
theorem s_Sharing_fits_2 {rc : Nat → Nat → Int32 → Int32 → Int32 → Int32 → am_M → Option (Int32)} {res : Int32} (ih_0 : ∀ (r0 : Nat) (x1 : Int32) (x2 : Int32) (x3 : Int32) (x4 : Int32) (M : am_M), rc 0 r0 x1 x2 x3 x4 M = some res → AW u_Sharing_fits R_Sharing_fits 0 0 20 [(0, .ref r0), (1, .int x1), (2, .int x2), (3, .int x3), (4, .int x4)] [] M (fun r M2 => r = .inl (some (.int res)) ∧ M2 = M)) (ih_1 : ∀ (r0 : Nat) (x1 : Int32) (x2 : Int32) (x3 : Int32) (x4 : Int32) (M : am_M), rc 1 r0 x1 x2 x3 x4 M = some res → AW u_Sharing_fits R_Sharing_fits 0 0 68 [(0, .ref r0), (1, .int x1), (2, .int x2), (3, .int x3), (4, .int x4)] [] M (fun r M2 => r = .inl (some (.int res)) ∧ M2 = M)) (ih_2 : ∀ (r0 : Nat) (x1 : Int32) (x2 : Int32) (x3 : Int32) (x4 : Int32) (M : am_M), rc 2 r0 x1 x2 x3 x4 M = some res → AW u_Sharing_fits R_Sharing_fits 0 0 110 [] [] M (fun r M2 => r = .inl (some (.int res)) ∧ M2 = M)) : ∀ (r0 : Nat) (x1 : Int32) (x2 : Int32) (x3 : Int32) (x4 : Int32) (M : am_M), a_Sharing_fits_2 rc r0 x1 x2 x3 x4 M = some res → AW u_Sharing_fits R_Sharing_fits 0 0 110 [] [] M (fun r M2 => r = .inl (some (.int res)) ∧ M2 = M) := by
  intro r0 x1 x2 x3 x4 M h
  unfold a_Sharing_fits_2 at h
  refine aw_iconst (v := 1) d_Sharing_fits_110 (by decide) ?_
  refine aw_goto (tgt := 115) d_Sharing_fits_111 (by decide) ?_
  cases h
  exact aw_zreturn d_Sharing_fits_115 rfl (by decide) (Nat.le_of_ble_eq_true rfl) (Nat.le_of_ble_eq_true rfl) ⟨rfl, rfl⟩
theorem l_Sharing_fits {res : Int32} : ∀ F : Nat, (∀ (r0 : Nat) (x1 : Int32) (x2 : Int32) (x3 : Int32) (x4 : Int32) (M : am_M), g_Sharing_fits F 0 r0 x1 x2 x3 x4 M = some res → AW u_Sharing_fits R_Sharing_fits 0 0 20 [(0, .ref r0), (1, .int x1), (2, .int x2), (3, .int x3), (4, .int x4)] [] M (fun r M2 => r = .inl (some (.int res)) ∧ M2 = M)) ∧ (∀ (r0 : Nat) (x1 : Int32) (x2 : Int32) (x3 : Int32) (x4 : Int32) (M : am_M), g_Sharing_fits F 1 r0 x1 x2 x3 x4 M = some res → AW u_Sharing_fits R_Sharing_fits 0 0 68 [(0, .ref r0), (1, .int x1), (2, .int x2), (3, .int x3), (4, .int x4)] [] M (fun r M2 => r = .inl (some (.int res)) ∧ M2 = M)) ∧ (∀ (r0 : Nat) (x1 : Int32) (x2 : Int32) (x3 : Int32) (x4 : Int32) (M : am_M), g_Sharing_fits F 2 r0 x1 x2 x3 x4 M = some res → AW u_Sharing_fits R_Sharing_fits 0 0 110 [] [] M (fun r M2 => r = .inl (some (.int res)) ∧ M2 = M)) := by
  intro F
  induction F with
  | zero => exact ⟨fun _ _ _ _ _ _  h => (by cases h), fun _ _ _ _ _ _  h => (by cases h), fun _ _ _ _ _ _  h => (by cases h)⟩
  | succ F ih =>
    obtain ⟨ih0, ih1, ih2⟩ := ih
    exact ⟨s_Sharing_fits_0 ih0 ih1 ih2, s_Sharing_fits_1 ih0 ih1 ih2, s_Sharing_fits_2 ih0 ih1 ih2⟩
set_option maxHeartbeats 4000000 in
theorem mt_Sharing_fits {M : am_M} {a0 : Nat} {a1 : Int32} {a2 : Int32} {res : Int32} (h : f_Sharing_fits M a0 a1 a2 = some res) : AMet y_Sharing_fits u_Sharing_fits R_Sharing_fits [.ref a0, .int a1, .int a2] M (fun r M2 => r = .inl (some (.int res)) ∧ M2 = M) := by
  refine am_met (by decide +kernel) w_Sharing_fits rfl rfl (Nat.le_of_ble_eq_true rfl) ?_
  show AW u_Sharing_fits R_Sharing_fits 0 0 0 [(0, .ref a0), (1, .int a1), (2, .int a2)] [] M (fun r M2 => r = .inl (some (.int res)) ∧ M2 = M)
  have ih_0 := (l_Sharing_fits (res := res) 1000000000).1
  have ih_1 := (l_Sharing_fits (res := res) 1000000000).2.1
  have ih_2 := (l_Sharing_fits (res := res) 1000000000).2.2
  unfold f_Sharing_fits at h
  unfold e_Sharing_fits at h
  generalize g_Sharing_fits 1000000000 = rc at h ih_0 ih_1 ih_2
  refine aw_iload_n d_Sharing_fits_0 rfl rfl ?_
  refine aw_aload_n d_Sharing_fits_1 rfl rfl ?_
  obtain ⟨t2, e_t2, h⟩ := q_bind h
  refine aw_gtr d_Sharing_fits_2 fl_Sharing_18 (Or.inr ⟨_, rfl⟩) e_t2 ?_
  refine aw_iload_n d_Sharing_fits_5 rfl rfl ?_
  obtain ⟨t6, e_t6, h⟩ := q_bind h
  refine aw_ldi d_Sharing_fits_6 e_t6 ?_
  refine aw_iconst (v := -1) d_Sharing_fits_7 (by decide) ?_
  refine aw_ixor d_Sharing_fits_8 ?_
  refine aw_iand d_Sharing_fits_9 ?_
  refine aw_if_eq (tgt := 15) d_Sharing_fits_10 (by decide) (fun hc => ?_) (fun hc => ?_)
  · rw [if_pos hc] at h
    refine aw_iconst (v := 0) d_Sharing_fits_15 (by decide) ?_
    refine aw_istore_n (ls' := [(3, .int _), (0, .ref _), (1, .int _), (2, .int _)]) d_Sharing_fits_16 rfl (Nat.le_of_ble_eq_true rfl) rfl ?_
    refine aw_iconst (v := 0) d_Sharing_fits_17 (by decide) ?_
    refine aw_istore (ls' := [(4, .int _), (3, .int _), (0, .ref _), (1, .int _), (2, .int _)]) d_Sharing_fits_18 (Nat.le_of_ble_eq_true rfl) rfl ?_
    exact aw_pick [2, 3, 4, 1, 0] rfl (ih_0 _ _ _ _ _ _ h)
  · rw [if_neg hc] at h
    refine aw_iconst (v := 0) d_Sharing_fits_13 (by decide) ?_
    cases h
    exact aw_zreturn d_Sharing_fits_14 rfl (by decide) (Nat.le_of_ble_eq_true rfl) (Nat.le_of_ble_eq_true rfl) ⟨rfl, rfl⟩
def y_Sharing_canGiveRest : MethodName := ⟨"CrewOffice$Sharing", "canGiveRest", "(III)Z"⟩
def u_Sharing_canGiveRest : am_U := ("CrewOffice$Sharing", "canGiveRest", prog_8_method_14_code, 7, (some .boolean), [])
def R_Sharing_canGiveRest (d : Nat) : Room := { frames := 2 + d, cells := 0, slots := 0, locals := 45 + 40 * d }
theorem d_Sharing_canGiveRest_0 : decode u_Sharing_canGiveRest.2.2.1 0 = .ok (.iload_n 1, 1) := by decide +kernel
theorem d_Sharing_canGiveRest_1 : decode u_Sharing_canGiveRest.2.2.1 1 = .ok (.aload_n 0, 1) := by decide +kernel
theorem d_Sharing_canGiveRest_2 : decode u_Sharing_canGiveRest.2.2.1 2 = .ok (.getfield 35, 3) := by decide +kernel
theorem d_Sharing_canGiveRest_5 : decode u_Sharing_canGiveRest.2.2.1 5 = .ok (.getfield 77, 3) := by decide +kernel
theorem d_Sharing_canGiveRest_8 : decode u_Sharing_canGiveRest.2.2.1 8 = .ok (.if_icmp .lt 5, 3) := by decide +kernel
theorem d_Sharing_canGiveRest_11 : decode u_Sharing_canGiveRest.2.2.1 11 = .ok (.iconst 1, 1) := by decide +kernel
theorem d_Sharing_canGiveRest_12 : decode u_Sharing_canGiveRest.2.2.1 12 = .ok (.ireturn, 1) := by decide +kernel
theorem d_Sharing_canGiveRest_13 : decode u_Sharing_canGiveRest.2.2.1 13 = .ok (.iload_n 1, 1) := by decide +kernel
theorem d_Sharing_canGiveRest_14 : decode u_Sharing_canGiveRest.2.2.1 14 = .ok (.invokestatic 56, 3) := by decide +kernel
theorem d_Sharing_canGiveRest_17 : decode u_Sharing_canGiveRest.2.2.1 17 = .ok (.istore 4, 2) := by decide +kernel
theorem d_Sharing_canGiveRest_19 : decode u_Sharing_canGiveRest.2.2.1 19 = .ok (.iload_n 2, 1) := by decide +kernel
theorem d_Sharing_canGiveRest_20 : decode u_Sharing_canGiveRest.2.2.1 20 = .ok (.iload 4, 2) := by decide +kernel
theorem d_Sharing_canGiveRest_22 : decode u_Sharing_canGiveRest.2.2.1 22 = .ok (.iand, 1) := by decide +kernel
theorem d_Sharing_canGiveRest_23 : decode u_Sharing_canGiveRest.2.2.1 23 = .ok (.ifCond .ne 13, 3) := by decide +kernel
theorem d_Sharing_canGiveRest_26 : decode u_Sharing_canGiveRest.2.2.1 26 = .ok (.aload_n 0, 1) := by decide +kernel
theorem d_Sharing_canGiveRest_27 : decode u_Sharing_canGiveRest.2.2.1 27 = .ok (.iload_n 1, 1) := by decide +kernel
theorem d_Sharing_canGiveRest_28 : decode u_Sharing_canGiveRest.2.2.1 28 = .ok (.iconst 1, 1) := by decide +kernel
theorem d_Sharing_canGiveRest_29 : decode u_Sharing_canGiveRest.2.2.1 29 = .ok (.iadd, 1) := by decide +kernel
theorem d_Sharing_canGiveRest_30 : decode u_Sharing_canGiveRest.2.2.1 30 = .ok (.iload_n 2, 1) := by decide +kernel
theorem d_Sharing_canGiveRest_31 : decode u_Sharing_canGiveRest.2.2.1 31 = .ok (.iload_n 3, 1) := by decide +kernel
theorem d_Sharing_canGiveRest_32 : decode u_Sharing_canGiveRest.2.2.1 32 = .ok (.invokevirtual 138, 3) := by decide +kernel
theorem d_Sharing_canGiveRest_35 : decode u_Sharing_canGiveRest.2.2.1 35 = .ok (.ireturn, 1) := by decide +kernel
theorem d_Sharing_canGiveRest_36 : decode u_Sharing_canGiveRest.2.2.1 36 = .ok (.iload_n 3, 1) := by decide +kernel
theorem d_Sharing_canGiveRest_37 : decode u_Sharing_canGiveRest.2.2.1 37 = .ok (.istore 5, 2) := by decide +kernel
theorem d_Sharing_canGiveRest_39 : decode u_Sharing_canGiveRest.2.2.1 39 = .ok (.iload 5, 2) := by decide +kernel
theorem d_Sharing_canGiveRest_41 : decode u_Sharing_canGiveRest.2.2.1 41 = .ok (.aload_n 0, 1) := by decide +kernel
theorem d_Sharing_canGiveRest_42 : decode u_Sharing_canGiveRest.2.2.1 42 = .ok (.getfield 81, 3) := by decide +kernel
theorem d_Sharing_canGiveRest_45 : decode u_Sharing_canGiveRest.2.2.1 45 = .ok (.if_icmp .ge 72, 3) := by decide +kernel
theorem d_Sharing_canGiveRest_48 : decode u_Sharing_canGiveRest.2.2.1 48 = .ok (.aload_n 0, 1) := by decide +kernel
theorem d_Sharing_canGiveRest_49 : decode u_Sharing_canGiveRest.2.2.1 49 = .ok (.iload 5, 2) := by decide +kernel
theorem d_Sharing_canGiveRest_51 : decode u_Sharing_canGiveRest.2.2.1 51 = .ok (.aload_n 0, 1) := by decide +kernel
theorem d_Sharing_canGiveRest_52 : decode u_Sharing_canGiveRest.2.2.1 52 = .ok (.getfield 21, 3) := by decide +kernel
theorem d_Sharing_canGiveRest_55 : decode u_Sharing_canGiveRest.2.2.1 55 = .ok (.iload 5, 2) := by decide +kernel
theorem d_Sharing_canGiveRest_57 : decode u_Sharing_canGiveRest.2.2.1 57 = .ok (.iaload, 1) := by decide +kernel
theorem d_Sharing_canGiveRest_58 : decode u_Sharing_canGiveRest.2.2.1 58 = .ok (.iload 4, 2) := by decide +kernel
theorem d_Sharing_canGiveRest_60 : decode u_Sharing_canGiveRest.2.2.1 60 = .ok (.ior, 1) := by decide +kernel
theorem d_Sharing_canGiveRest_61 : decode u_Sharing_canGiveRest.2.2.1 61 = .ok (.invokevirtual 130, 3) := by decide +kernel
theorem d_Sharing_canGiveRest_64 : decode u_Sharing_canGiveRest.2.2.1 64 = .ok (.ifCond .eq 47, 3) := by decide +kernel
theorem d_Sharing_canGiveRest_67 : decode u_Sharing_canGiveRest.2.2.1 67 = .ok (.aload_n 0, 1) := by decide +kernel
theorem d_Sharing_canGiveRest_68 : decode u_Sharing_canGiveRest.2.2.1 68 = .ok (.getfield 21, 3) := by decide +kernel
theorem d_Sharing_canGiveRest_71 : decode u_Sharing_canGiveRest.2.2.1 71 = .ok (.iload 5, 2) := by decide +kernel
theorem d_Sharing_canGiveRest_73 : decode u_Sharing_canGiveRest.2.2.1 73 = .ok (.dup2, 1) := by decide +kernel
theorem d_Sharing_canGiveRest_74 : decode u_Sharing_canGiveRest.2.2.1 74 = .ok (.iaload, 1) := by decide +kernel
theorem d_Sharing_canGiveRest_75 : decode u_Sharing_canGiveRest.2.2.1 75 = .ok (.iload 4, 2) := by decide +kernel
theorem d_Sharing_canGiveRest_77 : decode u_Sharing_canGiveRest.2.2.1 77 = .ok (.ior, 1) := by decide +kernel
theorem d_Sharing_canGiveRest_78 : decode u_Sharing_canGiveRest.2.2.1 78 = .ok (.iastore, 1) := by decide +kernel
theorem d_Sharing_canGiveRest_79 : decode u_Sharing_canGiveRest.2.2.1 79 = .ok (.aload_n 0, 1) := by decide +kernel
theorem d_Sharing_canGiveRest_80 : decode u_Sharing_canGiveRest.2.2.1 80 = .ok (.iload_n 1, 1) := by decide +kernel
theorem d_Sharing_canGiveRest_81 : decode u_Sharing_canGiveRest.2.2.1 81 = .ok (.iconst 1, 1) := by decide +kernel
theorem d_Sharing_canGiveRest_82 : decode u_Sharing_canGiveRest.2.2.1 82 = .ok (.iadd, 1) := by decide +kernel
theorem d_Sharing_canGiveRest_83 : decode u_Sharing_canGiveRest.2.2.1 83 = .ok (.iload_n 2, 1) := by decide +kernel
theorem d_Sharing_canGiveRest_84 : decode u_Sharing_canGiveRest.2.2.1 84 = .ok (.iload_n 3, 1) := by decide +kernel
theorem d_Sharing_canGiveRest_85 : decode u_Sharing_canGiveRest.2.2.1 85 = .ok (.invokevirtual 138, 3) := by decide +kernel
theorem d_Sharing_canGiveRest_88 : decode u_Sharing_canGiveRest.2.2.1 88 = .ok (.istore 6, 2) := by decide +kernel
theorem d_Sharing_canGiveRest_90 : decode u_Sharing_canGiveRest.2.2.1 90 = .ok (.aload_n 0, 1) := by decide +kernel
theorem d_Sharing_canGiveRest_91 : decode u_Sharing_canGiveRest.2.2.1 91 = .ok (.getfield 21, 3) := by decide +kernel
theorem d_Sharing_canGiveRest_94 : decode u_Sharing_canGiveRest.2.2.1 94 = .ok (.iload 5, 2) := by decide +kernel
theorem d_Sharing_canGiveRest_96 : decode u_Sharing_canGiveRest.2.2.1 96 = .ok (.dup2, 1) := by decide +kernel
theorem d_Sharing_canGiveRest_97 : decode u_Sharing_canGiveRest.2.2.1 97 = .ok (.iaload, 1) := by decide +kernel
theorem d_Sharing_canGiveRest_98 : decode u_Sharing_canGiveRest.2.2.1 98 = .ok (.iload 4, 2) := by decide +kernel
theorem d_Sharing_canGiveRest_100 : decode u_Sharing_canGiveRest.2.2.1 100 = .ok (.iconst (-1), 1) := by decide +kernel
theorem d_Sharing_canGiveRest_101 : decode u_Sharing_canGiveRest.2.2.1 101 = .ok (.ixor, 1) := by decide +kernel
theorem d_Sharing_canGiveRest_102 : decode u_Sharing_canGiveRest.2.2.1 102 = .ok (.iand, 1) := by decide +kernel
theorem d_Sharing_canGiveRest_103 : decode u_Sharing_canGiveRest.2.2.1 103 = .ok (.iastore, 1) := by decide +kernel
theorem d_Sharing_canGiveRest_104 : decode u_Sharing_canGiveRest.2.2.1 104 = .ok (.iload 6, 2) := by decide +kernel
theorem d_Sharing_canGiveRest_106 : decode u_Sharing_canGiveRest.2.2.1 106 = .ok (.ifCond .eq 5, 3) := by decide +kernel
theorem d_Sharing_canGiveRest_109 : decode u_Sharing_canGiveRest.2.2.1 109 = .ok (.iconst 1, 1) := by decide +kernel
theorem d_Sharing_canGiveRest_110 : decode u_Sharing_canGiveRest.2.2.1 110 = .ok (.ireturn, 1) := by decide +kernel
theorem d_Sharing_canGiveRest_111 : decode u_Sharing_canGiveRest.2.2.1 111 = .ok (.iinc 5 1, 3) := by decide +kernel
theorem d_Sharing_canGiveRest_114 : decode u_Sharing_canGiveRest.2.2.1 114 = .ok (.goto (-75), 3) := by decide +kernel
theorem d_Sharing_canGiveRest_117 : decode u_Sharing_canGiveRest.2.2.1 117 = .ok (.iconst 0, 1) := by decide +kernel
theorem d_Sharing_canGiveRest_118 : decode u_Sharing_canGiveRest.2.2.1 118 = .ok (.ireturn, 1) := by decide +kernel
theorem w_Sharing_canGiveRest : am_code y_Sharing_canGiveRest u_Sharing_canGiveRest ∈ am_ws := am_mem (List.mem_of_getElem? (i := 953) (by decide +kernel)) rfl
def a_Sharing_canGiveRest_0 (rec : am_M → Nat → Int32 → Int32 → Int32 → Option (Int32 × am_M)) (rc : Nat → Nat → Int32 → Int32 → Int32 → Int32 → Int32 → am_M → Option (Int32 × am_M)) (r0 : Nat) (x1 : Int32) (x2 : Int32) (x3 : Int32) (x4 : Int32) (x5 : Int32) (M : am_M) : Option (Int32 × am_M) := (q_gti M r0 8 5).bind (fun t42 => if t42 ≤ x5 then (some ((0 : Int32), M)) else ((q_gtr M r0 8 7).bind (fun t52 => (q_ldi M t52 x5).bind (fun t57 => (q_ob M r0 8).bind (fun o61 => (f_Sharing_fits M r0 x5 (t57 ||| x4)).bind (fun t61 => if t61 = 0 then (rc 1 r0 x1 x2 x3 x4 x5 M) else ((q_gtr M r0 8 7).bind (fun t68 => (q_ldi M t68 x5).bind (fun t74 => (q_sti M t68 x5 (t74 ||| x4)).bind (fun M78 => (q_ob M78 r0 8).bind (fun o85 => (rec M78 r0 (x1 + (1 : Int32)) x2 x3).bind (fun p85 => (q_gtr p85.2 r0 8 7).bind (fun t91 => (q_ldi p85.2 t91 x5).bind (fun t97 => (q_sti p85.2 t91 x5 (t97 &&& (x4 ^^^ (-1 : Int32)))).bind (fun M103 => if p85.1 = 0 then (rc 1 r0 x1 x2 x3 x4 x5 M103) else (some ((1 : Int32), M103)))))))))))))))))
def a_Sharing_canGiveRest_1 (rec : am_M → Nat → Int32 → Int32 → Int32 → Option (Int32 × am_M)) (rc : Nat → Nat → Int32 → Int32 → Int32 → Int32 → Int32 → am_M → Option (Int32 × am_M)) (r0 : Nat) (x1 : Int32) (x2 : Int32) (x3 : Int32) (x4 : Int32) (x5 : Int32) (M : am_M) : Option (Int32 × am_M) := rc 0 r0 x1 x2 x3 x4 (x5 + (1 : Int32)) M
def g_Sharing_canGiveRest (rec : am_M → Nat → Int32 → Int32 → Int32 → Option (Int32 × am_M)) : Nat → Nat → Nat → Int32 → Int32 → Int32 → Int32 → Int32 → am_M → Option (Int32 × am_M)
  | 0, _, _, _, _, _, _, _, _ => none
  | F + 1, 0, r0, x1, x2, x3, x4, x5, M => a_Sharing_canGiveRest_0 rec (g_Sharing_canGiveRest rec F) r0 x1 x2 x3 x4 x5 M
  | F + 1, 1, r0, x1, x2, x3, x4, x5, M => a_Sharing_canGiveRest_1 rec (g_Sharing_canGiveRest rec F) r0 x1 x2 x3 x4 x5 M
  | _ + 1, _ + 2, _, _, _, _, _, _, _ => none
def e_Sharing_canGiveRest (rec : am_M → Nat → Int32 → Int32 → Int32 → Option (Int32 × am_M)) (rc : Nat → Nat → Int32 → Int32 → Int32 → Int32 → Int32 → am_M → Option (Int32 × am_M)) (M : am_M) (a0 : Nat) (a1 : Int32) (a2 : Int32) (a3 : Int32) : Option (Int32 × am_M) := (q_gtr M a0 8 2).bind (fun t2 => (q_gti M t2 7 3).bind (fun t5 => if a1 < t5 then ((f_Sharing_bitOf M a1).bind (fun t14 => if (a2 &&& t14) = 0 then ((q_ob M a0 8).bind (fun o32 => (rec M a0 (a1 + (1 : Int32)) a2 a3).bind (fun p32 => (q_z p32.1).bind (fun z35 => some (z35, p32.2))))) else (rc 0 a0 a1 a2 a3 t14 a3 M))) else (some ((1 : Int32), M))))
def f_Sharing_canGiveRest : Nat → am_M → Nat → Int32 → Int32 → Int32 → Option (Int32 × am_M)
  | 0, _, _, _, _, _ => none
  | d + 1, M, a0, a1, a2, a3 => e_Sharing_canGiveRest (f_Sharing_canGiveRest d) (g_Sharing_canGiveRest (f_Sharing_canGiveRest d) 1000000000) M a0 a1 a2 a3
theorem fl_Sharing_21 : am_fl "CrewOffice$Sharing" 21 8 7 := ⟨by decide, by decide, List.mem_of_getElem? (i := 408) (by decide +kernel)⟩
theorem kV_Sharing_130 : am_kV "CrewOffice$Sharing" 130 8 y_Sharing_fits u_Sharing_fits 2 := ⟨List.mem_of_getElem? (i := 926) (by decide +kernel), ⟨List.mem_of_getElem? (i := 928) (by decide +kernel), List.mem_of_getElem? (i := 25) (by decide +kernel)⟩, List.mem_of_getElem? (i := 64) (by decide +kernel), w_Sharing_fits, ⟨⟨by decide +kernel, by decide +kernel⟩, by decide +kernel⟩⟩
theorem kV_Sharing_138 : am_kV "CrewOffice$Sharing" 138 8 y_Sharing_canGiveRest u_Sharing_canGiveRest 3 := ⟨List.mem_of_getElem? (i := 950) (by decide +kernel), ⟨List.mem_of_getElem? (i := 952) (by decide +kernel), List.mem_of_getElem? (i := 27) (by decide +kernel)⟩, List.mem_of_getElem? (i := 64) (by decide +kernel), w_Sharing_canGiveRest, ⟨⟨by decide +kernel, by decide +kernel⟩, by decide +kernel⟩⟩
set_option maxHeartbeats 4000000 in
theorem s_Sharing_canGiveRest_0 {d : Nat} {rec : am_M → Nat → Int32 → Int32 → Int32 → Option (Int32 × am_M)} (hrec : ∀ {M : am_M} {a0 : Nat} {a1 : Int32} {a2 : Int32} {a3 : Int32} {res : Int32} {M' : am_M}, rec M a0 a1 a2 a3 = some (res, M') → AMet y_Sharing_canGiveRest u_Sharing_canGiveRest (R_Sharing_canGiveRest d) [.ref a0, .int a1, .int a2, .int a3] M (fun r M2 => r = .inl (some (.int res)) ∧ M2 = M')) {rc : Nat → Nat → Int32 → Int32 → Int32 → Int32 → Int32 → am_M → Option (Int32 × am_M)} {res : Int32} {M' : am_M} (ih_0 : ∀ (r0 : Nat) (x1 : Int32) (x2 : Int32) (x3 : Int32) (x4 : Int32) (x5 : Int32) (M : am_M), rc 0 r0 x1 x2 x3 x4 x5 M = some (res, M') → AW u_Sharing_canGiveRest (R_Sharing_canGiveRest (d + 1)) 0 0 39 [(0, .ref r0), (1, .int x1), (2, .int x2), (3, .int x3), (4, .int x4), (5, .int x5)] [] M (fun r M2 => r = .inl (some (.int res)) ∧ M2 = M')) (ih_1 : ∀ (r0 : Nat) (x1 : Int32) (x2 : Int32) (x3 : Int32) (x4 : Int32) (x5 : Int32) (M : am_M), rc 1 r0 x1 x2 x3 x4 x5 M = some (res, M') → AW u_Sharing_canGiveRest (R_Sharing_canGiveRest (d + 1)) 0 0 111 [(0, .ref r0), (1, .int x1), (2, .int x2), (3, .int x3), (4, .int x4), (5, .int x5)] [] M (fun r M2 => r = .inl (some (.int res)) ∧ M2 = M')) : ∀ (r0 : Nat) (x1 : Int32) (x2 : Int32) (x3 : Int32) (x4 : Int32) (x5 : Int32) (M : am_M), a_Sharing_canGiveRest_0 rec rc r0 x1 x2 x3 x4 x5 M = some (res, M') → AW u_Sharing_canGiveRest (R_Sharing_canGiveRest (d + 1)) 0 0 39 [(0, .ref r0), (1, .int x1), (2, .int x2), (3, .int x3), (4, .int x4), (5, .int x5)] [] M (fun r M2 => r = .inl (some (.int res)) ∧ M2 = M') := by
  intro r0 x1 x2 x3 x4 x5 M h
  unfold a_Sharing_canGiveRest_0 at h
  refine aw_iload d_Sharing_canGiveRest_39 rfl ?_
  refine aw_aload_n d_Sharing_canGiveRest_41 rfl rfl ?_
  obtain ⟨t42, e_t42, h⟩ := q_bind h
  refine aw_gti d_Sharing_canGiveRest_42 fl_Sharing_81 (Or.inl rfl) e_t42 ?_
  refine aw_icmp_ge (tgt := 117) d_Sharing_canGiveRest_45 (by decide) (fun hc => ?_) (fun hc => ?_)
  · rw [if_pos hc] at h
    refine aw_iconst (v := 0) d_Sharing_canGiveRest_117 (by decide) ?_
    cases h
    exact aw_zreturn d_Sharing_canGiveRest_118 rfl (by decide) (Nat.le_of_ble_eq_true rfl) (Nat.le_of_ble_eq_true rfl) ⟨rfl, rfl⟩
  · rw [if_neg hc] at h
    refine aw_aload_n d_Sharing_canGiveRest_48 rfl rfl ?_
    refine aw_iload d_Sharing_canGiveRest_49 rfl ?_
    refine aw_aload_n d_Sharing_canGiveRest_51 rfl rfl ?_
    obtain ⟨t52, e_t52, h⟩ := q_bind h
    refine aw_gtr d_Sharing_canGiveRest_52 fl_Sharing_21 (Or.inr ⟨_, rfl⟩) e_t52 ?_
    refine aw_iload d_Sharing_canGiveRest_55 rfl ?_
    obtain ⟨t57, e_t57, h⟩ := q_bind h
    refine aw_ldi d_Sharing_canGiveRest_57 e_t57 ?_
    refine aw_iload d_Sharing_canGiveRest_58 rfl ?_
    refine aw_ior d_Sharing_canGiveRest_60 ?_
    obtain ⟨o61, e_o61, h⟩ := q_bind h
    obtain ⟨t61, e_t61, h⟩ := q_bind h
    refine aw_cV (v := (some (.int t61))) (As := [.int x5, .int (t57 ||| x4)]) (rest := []) (st' := [.int t61]) d_Sharing_canGiveRest_61 kV_Sharing_130 (q_ob_spec e_o61).1 (q_ob_spec e_o61).2 (by refine ⟨?_, ?_, ?_, ?_⟩ <;> simp [u_Sharing_fits, R_Sharing_bitOf, R_Sharing_canGiveRest, R_Sharing_fits] <;> omega) rfl rfl (Nat.le_of_ble_eq_true rfl) rfl (mt_Sharing_fits e_t61) ?_
    refine aw_if_eq (tgt := 111) d_Sharing_canGiveRest_64 (by decide) (fun hc => ?_) (fun hc => ?_)
    · rw [if_pos hc] at h
      exact aw_pick [0, 1, 2, 3, 4, 5] rfl (ih_1 _ _ _ _ _ _ _ h)
    · rw [if_neg hc] at h
      refine aw_aload_n d_Sharing_canGiveRest_67 rfl rfl ?_
      obtain ⟨t68, e_t68, h⟩ := q_bind h
      refine aw_gtr d_Sharing_canGiveRest_68 fl_Sharing_21 (Or.inr ⟨_, rfl⟩) e_t68 ?_
      refine aw_iload d_Sharing_canGiveRest_71 rfl ?_
      refine aw_dup2 d_Sharing_canGiveRest_73 rfl rfl ?_
      obtain ⟨t74, e_t74, h⟩ := q_bind h
      refine aw_ldi d_Sharing_canGiveRest_74 e_t74 ?_
      refine aw_iload d_Sharing_canGiveRest_75 rfl ?_
      refine aw_ior d_Sharing_canGiveRest_77 ?_
      obtain ⟨M78, e_M78, h⟩ := q_bind h
      refine aw_sti d_Sharing_canGiveRest_78 e_M78 ?_
      refine aw_aload_n d_Sharing_canGiveRest_79 rfl rfl ?_
      refine aw_iload_n d_Sharing_canGiveRest_80 rfl rfl ?_
      refine aw_iconst (v := 1) d_Sharing_canGiveRest_81 (by decide) ?_
      refine aw_iadd d_Sharing_canGiveRest_82 ?_
      refine aw_iload_n d_Sharing_canGiveRest_83 rfl rfl ?_
      refine aw_iload_n d_Sharing_canGiveRest_84 rfl rfl ?_
      obtain ⟨o85, e_o85, h⟩ := q_bind h
      obtain ⟨⟨t85, M85⟩, e_t85, h⟩ := q_bind h
      dsimp only at h
      refine aw_cV (v := (some (.int t85))) (As := [.int (x1 + (1 : Int32)), .int x2, .int x3]) (rest := []) (st' := [.int t85]) d_Sharing_canGiveRest_85 kV_Sharing_138 (q_ob_spec e_o85).1 (q_ob_spec e_o85).2 (by refine ⟨?_, ?_, ?_, ?_⟩ <;> simp [u_Sharing_canGiveRest, R_Sharing_bitOf, R_Sharing_canGiveRest, R_Sharing_fits] <;> omega) rfl rfl (Nat.le_of_ble_eq_true rfl) rfl (hrec e_t85) ?_
      refine aw_istore (ls' := [(6, .int _), (0, .ref _), (1, .int _), (2, .int _), (3, .int _), (4, .int _), (5, .int _)]) d_Sharing_canGiveRest_88 (Nat.le_of_ble_eq_true rfl) rfl ?_
      refine aw_aload_n d_Sharing_canGiveRest_90 rfl rfl ?_
      obtain ⟨t91, e_t91, h⟩ := q_bind h
      refine aw_gtr d_Sharing_canGiveRest_91 fl_Sharing_21 (Or.inr ⟨_, rfl⟩) e_t91 ?_
      refine aw_iload d_Sharing_canGiveRest_94 rfl ?_
      refine aw_dup2 d_Sharing_canGiveRest_96 rfl rfl ?_
      obtain ⟨t97, e_t97, h⟩ := q_bind h
      refine aw_ldi d_Sharing_canGiveRest_97 e_t97 ?_
      refine aw_iload d_Sharing_canGiveRest_98 rfl ?_
      refine aw_iconst (v := -1) d_Sharing_canGiveRest_100 (by decide) ?_
      refine aw_ixor d_Sharing_canGiveRest_101 ?_
      refine aw_iand d_Sharing_canGiveRest_102 ?_
      obtain ⟨M103, e_M103, h⟩ := q_bind h
      refine aw_sti d_Sharing_canGiveRest_103 e_M103 ?_
      refine aw_iload d_Sharing_canGiveRest_104 rfl ?_
      refine aw_if_eq (tgt := 111) d_Sharing_canGiveRest_106 (by decide) (fun hc => ?_) (fun hc => ?_)
      · rw [if_pos hc] at h
        exact aw_pick [1, 2, 3, 4, 5, 6] rfl (ih_1 _ _ _ _ _ _ _ h)
      · rw [if_neg hc] at h
        refine aw_iconst (v := 1) d_Sharing_canGiveRest_109 (by decide) ?_
        cases h
        exact aw_zreturn d_Sharing_canGiveRest_110 rfl (by decide) (Nat.le_of_ble_eq_true rfl) (Nat.le_of_ble_eq_true rfl) ⟨rfl, rfl⟩
set_option maxHeartbeats 4000000 in
theorem s_Sharing_canGiveRest_1 {d : Nat} {rec : am_M → Nat → Int32 → Int32 → Int32 → Option (Int32 × am_M)} (hrec : ∀ {M : am_M} {a0 : Nat} {a1 : Int32} {a2 : Int32} {a3 : Int32} {res : Int32} {M' : am_M}, rec M a0 a1 a2 a3 = some (res, M') → AMet y_Sharing_canGiveRest u_Sharing_canGiveRest (R_Sharing_canGiveRest d) [.ref a0, .int a1, .int a2, .int a3] M (fun r M2 => r = .inl (some (.int res)) ∧ M2 = M')) {rc : Nat → Nat → Int32 → Int32 → Int32 → Int32 → Int32 → am_M → Option (Int32 × am_M)} {res : Int32} {M' : am_M} (ih_0 : ∀ (r0 : Nat) (x1 : Int32) (x2 : Int32) (x3 : Int32) (x4 : Int32) (x5 : Int32) (M : am_M), rc 0 r0 x1 x2 x3 x4 x5 M = some (res, M') → AW u_Sharing_canGiveRest (R_Sharing_canGiveRest (d + 1)) 0 0 39 [(0, .ref r0), (1, .int x1), (2, .int x2), (3, .int x3), (4, .int x4), (5, .int x5)] [] M (fun r M2 => r = .inl (some (.int res)) ∧ M2 = M')) (ih_1 : ∀ (r0 : Nat) (x1 : Int32) (x2 : Int32) (x3 : Int32) (x4 : Int32) (x5 : Int32) (M : am_M), rc 1 r0 x1 x2 x3 x4 x5 M = some (res, M') → AW u_Sharing_canGiveRest (R_Sharing_canGiveRest (d + 1)) 0 0 111 [(0, .ref r0), (1, .int x1), (2, .int x2), (3, .int x3), (4, .int x4), (5, .int x5)] [] M (fun r M2 => r = .inl (some (.int res)) ∧ M2 = M')) : ∀ (r0 : Nat) (x1 : Int32) (x2 : Int32) (x3 : Int32) (x4 : Int32) (x5 : Int32) (M : am_M), a_Sharing_canGiveRest_1 rec rc r0 x1 x2 x3 x4 x5 M = some (res, M') → AW u_Sharing_canGiveRest (R_Sharing_canGiveRest (d + 1)) 0 0 111 [(0, .ref r0), (1, .int x1), (2, .int x2), (3, .int x3), (4, .int x4), (5, .int x5)] [] M (fun r M2 => r = .inl (some (.int res)) ∧ M2 = M') := by
  intro r0 x1 x2 x3 x4 x5 M h
  unfold a_Sharing_canGiveRest_1 at h
  refine aw_iinc (v := (x5 + (1 : Int32))) (ls' := [(5, .int _), (0, .ref _), (1, .int _), (2, .int _), (3, .int _), (4, .int _)]) d_Sharing_canGiveRest_111 rfl rfl (Nat.le_of_ble_eq_true rfl) rfl ?_
  refine aw_goto (tgt := 39) d_Sharing_canGiveRest_114 (by decide) ?_
  exact aw_pick [1, 2, 3, 4, 5, 0] rfl (ih_0 _ _ _ _ _ _ _ h)
theorem l_Sharing_canGiveRest {d : Nat} {rec : am_M → Nat → Int32 → Int32 → Int32 → Option (Int32 × am_M)} (hrec : ∀ {M : am_M} {a0 : Nat} {a1 : Int32} {a2 : Int32} {a3 : Int32} {res : Int32} {M' : am_M}, rec M a0 a1 a2 a3 = some (res, M') → AMet y_Sharing_canGiveRest u_Sharing_canGiveRest (R_Sharing_canGiveRest d) [.ref a0, .int a1, .int a2, .int a3] M (fun r M2 => r = .inl (some (.int res)) ∧ M2 = M')) {res : Int32} {M' : am_M} : ∀ F : Nat, (∀ (r0 : Nat) (x1 : Int32) (x2 : Int32) (x3 : Int32) (x4 : Int32) (x5 : Int32) (M : am_M), g_Sharing_canGiveRest rec F 0 r0 x1 x2 x3 x4 x5 M = some (res, M') → AW u_Sharing_canGiveRest (R_Sharing_canGiveRest (d + 1)) 0 0 39 [(0, .ref r0), (1, .int x1), (2, .int x2), (3, .int x3), (4, .int x4), (5, .int x5)] [] M (fun r M2 => r = .inl (some (.int res)) ∧ M2 = M')) ∧ (∀ (r0 : Nat) (x1 : Int32) (x2 : Int32) (x3 : Int32) (x4 : Int32) (x5 : Int32) (M : am_M), g_Sharing_canGiveRest rec F 1 r0 x1 x2 x3 x4 x5 M = some (res, M') → AW u_Sharing_canGiveRest (R_Sharing_canGiveRest (d + 1)) 0 0 111 [(0, .ref r0), (1, .int x1), (2, .int x2), (3, .int x3), (4, .int x4), (5, .int x5)] [] M (fun r M2 => r = .inl (some (.int res)) ∧ M2 = M')) := by
  intro F
  induction F with
  | zero => exact ⟨fun _ _ _ _ _ _ _  h => (by cases h), fun _ _ _ _ _ _ _  h => (by cases h)⟩
  | succ F ih =>
    obtain ⟨ih0, ih1⟩ := ih
    exact ⟨s_Sharing_canGiveRest_0 hrec ih0 ih1, s_Sharing_canGiveRest_1 hrec ih0 ih1⟩
set_option maxHeartbeats 4000000 in
theorem mr_Sharing_canGiveRest {d : Nat} {rec : am_M → Nat → Int32 → Int32 → Int32 → Option (Int32 × am_M)} (hrec : ∀ {M : am_M} {a0 : Nat} {a1 : Int32} {a2 : Int32} {a3 : Int32} {res : Int32} {M' : am_M}, rec M a0 a1 a2 a3 = some (res, M') → AMet y_Sharing_canGiveRest u_Sharing_canGiveRest (R_Sharing_canGiveRest d) [.ref a0, .int a1, .int a2, .int a3] M (fun r M2 => r = .inl (some (.int res)) ∧ M2 = M')) {M : am_M} {a0 : Nat} {a1 : Int32} {a2 : Int32} {a3 : Int32} {res : Int32} {M' : am_M} (h : e_Sharing_canGiveRest rec (g_Sharing_canGiveRest rec 1000000000) M a0 a1 a2 a3 = some (res, M')) : AMet y_Sharing_canGiveRest u_Sharing_canGiveRest (R_Sharing_canGiveRest (d + 1)) [.ref a0, .int a1, .int a2, .int a3] M (fun r M2 => r = .inl (some (.int res)) ∧ M2 = M') := by
  refine am_met (by decide +kernel) w_Sharing_canGiveRest rfl rfl (Nat.le_of_ble_eq_true rfl) ?_
  show AW u_Sharing_canGiveRest (R_Sharing_canGiveRest (d + 1)) 0 0 0 [(0, .ref a0), (1, .int a1), (2, .int a2), (3, .int a3)] [] M (fun r M2 => r = .inl (some (.int res)) ∧ M2 = M')
  have ih_0 := (l_Sharing_canGiveRest hrec (res := res) (M' := M') 1000000000).1
  have ih_1 := (l_Sharing_canGiveRest hrec (res := res) (M' := M') 1000000000).2
  unfold e_Sharing_canGiveRest at h
  generalize g_Sharing_canGiveRest rec 1000000000 = rc at h ih_0 ih_1
  refine aw_iload_n d_Sharing_canGiveRest_0 rfl rfl ?_
  refine aw_aload_n d_Sharing_canGiveRest_1 rfl rfl ?_
  obtain ⟨t2, e_t2, h⟩ := q_bind h
  refine aw_gtr d_Sharing_canGiveRest_2 fl_Sharing_35 (Or.inl ⟨_, rfl⟩) e_t2 ?_
  obtain ⟨t5, e_t5, h⟩ := q_bind h
  refine aw_gti d_Sharing_canGiveRest_5 fl_Sharing_77 (Or.inl rfl) e_t5 ?_
  refine aw_icmp_lt (tgt := 13) d_Sharing_canGiveRest_8 (by decide) (fun hc => ?_) (fun hc => ?_)
  · rw [if_pos hc] at h
    refine aw_iload_n d_Sharing_canGiveRest_13 rfl rfl ?_
    obtain ⟨t14, e_t14, h⟩ := q_bind h
    refine aw_cS (v := (some (.int t14))) (As := [.int a1]) (rest := []) (st' := [.int t14]) d_Sharing_canGiveRest_14 kS_Sharing_56 (by refine ⟨?_, ?_, ?_, ?_⟩ <;> simp [u_Sharing_bitOf, R_Sharing_bitOf, R_Sharing_canGiveRest, R_Sharing_fits] <;> omega) rfl rfl (Nat.le_of_ble_eq_true rfl) rfl (mt_Sharing_bitOf e_t14) ?_
    refine aw_istore (ls' := [(4, .int _), (0, .ref _), (1, .int _), (2, .int _), (3, .int _)]) d_Sharing_canGiveRest_17 (Nat.le_of_ble_eq_true rfl) rfl ?_
    refine aw_iload_n d_Sharing_canGiveRest_19 rfl rfl ?_
    refine aw_iload d_Sharing_canGiveRest_20 rfl ?_
    refine aw_iand d_Sharing_canGiveRest_22 ?_
    refine aw_if_ne (tgt := 36) d_Sharing_canGiveRest_23 (by decide) (fun hc => ?_) (fun hc => ?_)
    · rw [if_neg hc] at h
      refine aw_iload_n d_Sharing_canGiveRest_36 rfl rfl ?_
      refine aw_istore (ls' := [(5, .int _), (4, .int _), (0, .ref _), (1, .int _), (2, .int _), (3, .int _)]) d_Sharing_canGiveRest_37 (Nat.le_of_ble_eq_true rfl) rfl ?_
      exact aw_pick [2, 3, 4, 5, 1, 0] rfl (ih_0 _ _ _ _ _ _ _ h)
    · rw [if_pos hc] at h
      refine aw_aload_n d_Sharing_canGiveRest_26 rfl rfl ?_
      refine aw_iload_n d_Sharing_canGiveRest_27 rfl rfl ?_
      refine aw_iconst (v := 1) d_Sharing_canGiveRest_28 (by decide) ?_
      refine aw_iadd d_Sharing_canGiveRest_29 ?_
      refine aw_iload_n d_Sharing_canGiveRest_30 rfl rfl ?_
      refine aw_iload_n d_Sharing_canGiveRest_31 rfl rfl ?_
      obtain ⟨o32, e_o32, h⟩ := q_bind h
      obtain ⟨⟨t32, M32⟩, e_t32, h⟩ := q_bind h
      dsimp only at h
      refine aw_cV (v := (some (.int t32))) (As := [.int (a1 + (1 : Int32)), .int a2, .int a3]) (rest := []) (st' := [.int t32]) d_Sharing_canGiveRest_32 kV_Sharing_138 (q_ob_spec e_o32).1 (q_ob_spec e_o32).2 (by refine ⟨?_, ?_, ?_, ?_⟩ <;> simp [u_Sharing_canGiveRest, R_Sharing_bitOf, R_Sharing_canGiveRest, R_Sharing_fits] <;> omega) rfl rfl (Nat.le_of_ble_eq_true rfl) rfl (hrec e_t32) ?_
      obtain ⟨z35, e_z35, h⟩ := q_bind h
      obtain ⟨hz, hn⟩ := q_z_spec e_z35
      cases h
      rw [hz]
      exact aw_zreturn d_Sharing_canGiveRest_35 rfl hn (Nat.le_of_ble_eq_true rfl) (Nat.le_of_ble_eq_true rfl) ⟨rfl, rfl⟩
  · rw [if_neg hc] at h
    refine aw_iconst (v := 1) d_Sharing_canGiveRest_11 (by decide) ?_
    cases h
    exact aw_zreturn d_Sharing_canGiveRest_12 rfl (by decide) (Nat.le_of_ble_eq_true rfl) (Nat.le_of_ble_eq_true rfl) ⟨rfl, rfl⟩
theorem mt_Sharing_canGiveRest : ∀ (d : Nat) {M : am_M} {a0 : Nat} {a1 : Int32} {a2 : Int32} {a3 : Int32} {res : Int32} {M' : am_M}, f_Sharing_canGiveRest d M a0 a1 a2 a3 = some (res, M') → AMet y_Sharing_canGiveRest u_Sharing_canGiveRest (R_Sharing_canGiveRest d) [.ref a0, .int a1, .int a2, .int a3] M (fun r M2 => r = .inl (some (.int res)) ∧ M2 = M')
  | 0, _, _, _, _, _, _, _, h => by cases h
  | d + 1, _, _, _, _, _, _, _, h => mr_Sharing_canGiveRest (fun h => mt_Sharing_canGiveRest d h) h
def y_Trip_put : MethodName := ⟨"CrewOffice$Trip", "put", "(II)V"⟩
def u_Trip_put : am_U := ("CrewOffice$Trip", "put", prog_9_method_2_code, 3, none, [])
def R_Trip_put : Room := { frames := 0, cells := 0, slots := 0, locals := 0 }
theorem d_Trip_put_0 : decode u_Trip_put.2.2.1 0 = .ok (.iconst 0, 1) := by decide +kernel
theorem d_Trip_put_1 : decode u_Trip_put.2.2.1 1 = .ok (.iload_n 1, 1) := by decide +kernel
theorem d_Trip_put_2 : decode u_Trip_put.2.2.1 2 = .ok (.if_icmp .gt 29, 3) := by decide +kernel
theorem d_Trip_put_5 : decode u_Trip_put.2.2.1 5 = .ok (.iload_n 1, 1) := by decide +kernel
theorem d_Trip_put_6 : decode u_Trip_put.2.2.1 6 = .ok (.bipush 8, 2) := by decide +kernel
theorem d_Trip_put_8 : decode u_Trip_put.2.2.1 8 = .ok (.if_icmp .ge 23, 3) := by decide +kernel
theorem d_Trip_put_11 : decode u_Trip_put.2.2.1 11 = .ok (.aload_n 0, 1) := by decide +kernel
theorem d_Trip_put_12 : decode u_Trip_put.2.2.1 12 = .ok (.getfield 12, 3) := by decide +kernel
theorem d_Trip_put_15 : decode u_Trip_put.2.2.1 15 = .ok (.getfield 32, 3) := by decide +kernel
theorem d_Trip_put_18 : decode u_Trip_put.2.2.1 18 = .ok (.iload_n 1, 1) := by decide +kernel
theorem d_Trip_put_19 : decode u_Trip_put.2.2.1 19 = .ok (.iload_n 2, 1) := by decide +kernel
theorem d_Trip_put_20 : decode u_Trip_put.2.2.1 20 = .ok (.iastore, 1) := by decide +kernel
theorem d_Trip_put_21 : decode u_Trip_put.2.2.1 21 = .ok (.aload_n 0, 1) := by decide +kernel
theorem d_Trip_put_22 : decode u_Trip_put.2.2.1 22 = .ok (.getfield 12, 3) := by decide +kernel
theorem d_Trip_put_25 : decode u_Trip_put.2.2.1 25 = .ok (.iload_n 1, 1) := by decide +kernel
theorem d_Trip_put_26 : decode u_Trip_put.2.2.1 26 = .ok (.iconst 1, 1) := by decide +kernel
theorem d_Trip_put_27 : decode u_Trip_put.2.2.1 27 = .ok (.iadd, 1) := by decide +kernel
theorem d_Trip_put_28 : decode u_Trip_put.2.2.1 28 = .ok (.putfield 35, 3) := by decide +kernel
theorem d_Trip_put_31 : decode u_Trip_put.2.2.1 31 = .ok (.return_, 1) := by decide +kernel
theorem w_Trip_put : am_code y_Trip_put u_Trip_put ∈ am_ws := am_mem (List.mem_of_getElem? (i := 493) (by decide +kernel)) rfl
def e_Trip_put (M : am_M) (a0 : Nat) (a1 : Int32) (a2 : Int32) : Option (Unit × am_M) := if a1 < (0 : Int32) then (some ((), M)) else (if (8 : Int32) ≤ a1 then (some ((), M)) else ((q_gtr M a0 5 1).bind (fun t12 => (q_gtr M t12 4 0).bind (fun t15 => (q_sti M t15 a1 a2).bind (fun M20 => (q_gtr M20 a0 5 1).bind (fun t22 => (q_pti M20 t22 4 1 (a1 + (1 : Int32))).bind (fun M28 => some ((), M28))))))))
def f_Trip_put (M : am_M) (a0 : Nat) (a1 : Int32) (a2 : Int32) : Option (Unit × am_M) := e_Trip_put M a0 a1 a2
theorem fl_Trip_12 : am_fl "CrewOffice$Trip" 12 5 1 := ⟨by decide, by decide, List.mem_of_getElem? (i := 312) (by decide +kernel)⟩
theorem fl_Trip_32 : am_fl "CrewOffice$Trip" 32 4 0 := ⟨by decide, by decide, List.mem_of_getElem? (i := 261) (by decide +kernel)⟩
theorem fl_Trip_35 : am_fl "CrewOffice$Trip" 35 4 1 := ⟨by decide, by decide, List.mem_of_getElem? (i := 265) (by decide +kernel)⟩
set_option maxHeartbeats 4000000 in
theorem mt_Trip_put {M : am_M} {a0 : Nat} {a1 : Int32} {a2 : Int32} {res : Unit} {M' : am_M} (h : f_Trip_put M a0 a1 a2 = some (res, M')) : AMet y_Trip_put u_Trip_put R_Trip_put [.ref a0, .int a1, .int a2] M (fun r M2 => r = .inl none ∧ M2 = M') := by
  refine am_met (by decide +kernel) w_Trip_put rfl rfl (Nat.le_of_ble_eq_true rfl) ?_
  show AW u_Trip_put R_Trip_put 0 0 0 [(0, .ref a0), (1, .int a1), (2, .int a2)] [] M (fun r M2 => r = .inl none ∧ M2 = M')
  unfold f_Trip_put at h
  unfold e_Trip_put at h
  refine aw_iconst (v := 0) d_Trip_put_0 (by decide) ?_
  refine aw_iload_n d_Trip_put_1 rfl rfl ?_
  refine aw_icmp_gt (tgt := 31) d_Trip_put_2 (by decide) (fun hc => ?_) (fun hc => ?_)
  · rw [if_pos hc] at h
    cases h
    exact aw_vreturn d_Trip_put_31 rfl (Nat.le_of_ble_eq_true rfl) (Nat.le_of_ble_eq_true rfl) ⟨rfl, rfl⟩
  · rw [if_neg hc] at h
    refine aw_iload_n d_Trip_put_5 rfl rfl ?_
    refine aw_bipush (v := 8) d_Trip_put_6 (by decide) ?_
    refine aw_icmp_ge (tgt := 31) d_Trip_put_8 (by decide) (fun hc => ?_) (fun hc => ?_)
    · rw [if_pos hc] at h
      cases h
      exact aw_vreturn d_Trip_put_31 rfl (Nat.le_of_ble_eq_true rfl) (Nat.le_of_ble_eq_true rfl) ⟨rfl, rfl⟩
    · rw [if_neg hc] at h
      refine aw_aload_n d_Trip_put_11 rfl rfl ?_
      obtain ⟨t12, e_t12, h⟩ := q_bind h
      refine aw_gtr d_Trip_put_12 fl_Trip_12 (Or.inl ⟨_, rfl⟩) e_t12 ?_
      obtain ⟨t15, e_t15, h⟩ := q_bind h
      refine aw_gtr d_Trip_put_15 fl_Trip_32 (Or.inr ⟨_, rfl⟩) e_t15 ?_
      refine aw_iload_n d_Trip_put_18 rfl rfl ?_
      refine aw_iload_n d_Trip_put_19 rfl rfl ?_
      obtain ⟨M20, e_M20, h⟩ := q_bind h
      refine aw_sti d_Trip_put_20 e_M20 ?_
      refine aw_aload_n d_Trip_put_21 rfl rfl ?_
      obtain ⟨t22, e_t22, h⟩ := q_bind h
      refine aw_gtr d_Trip_put_22 fl_Trip_12 (Or.inl ⟨_, rfl⟩) e_t22 ?_
      refine aw_iload_n d_Trip_put_25 rfl rfl ?_
      refine aw_iconst (v := 1) d_Trip_put_26 (by decide) ?_
      refine aw_iadd d_Trip_put_27 ?_
      obtain ⟨M28, e_M28, h⟩ := q_bind h
      refine aw_pti d_Trip_put_28 fl_Trip_35 rfl rfl e_M28 ?_
      cases h
      exact aw_vreturn d_Trip_put_31 rfl (Nat.le_of_ble_eq_true rfl) (Nat.le_of_ble_eq_true rfl) ⟨rfl, rfl⟩
