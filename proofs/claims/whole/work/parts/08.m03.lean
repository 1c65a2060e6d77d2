-- Model_isWhole Model_span Model_many Model_lays Model_isBefore
def y_Model_isWhole : MethodName := ⟨"CrewOfficeModel", "isWhole", "()Z"⟩
def u_Model_isWhole : am_U := ("CrewOfficeModel", "isWhole", prog_12_method_29_code, 3, (some .boolean), [])
def R_Model_isWhole : Room := { frames := 0, cells := 0, slots := 0, locals := 0 }
theorem d_Model_isWhole_0 : decode u_Model_isWhole.2.2.1 0 = .ok (.aload_n 0, 1) := by decide +kernel
theorem d_Model_isWhole_1 : decode u_Model_isWhole.2.2.1 1 = .ok (.getfield 222, 3) := by decide +kernel
theorem d_Model_isWhole_4 : decode u_Model_isWhole.2.2.1 4 = .ok (.ifCond .le 7, 3) := by decide +kernel
theorem d_Model_isWhole_7 : decode u_Model_isWhole.2.2.1 7 = .ok (.iconst 1, 1) := by decide +kernel
theorem d_Model_isWhole_8 : decode u_Model_isWhole.2.2.1 8 = .ok (.goto 4, 3) := by decide +kernel
theorem d_Model_isWhole_11 : decode u_Model_isWhole.2.2.1 11 = .ok (.iconst 0, 1) := by decide +kernel
theorem d_Model_isWhole_12 : decode u_Model_isWhole.2.2.1 12 = .ok (.istore_n 1, 1) := by decide +kernel
theorem d_Model_isWhole_13 : decode u_Model_isWhole.2.2.1 13 = .ok (.iconst 0, 1) := by decide +kernel
theorem d_Model_isWhole_14 : decode u_Model_isWhole.2.2.1 14 = .ok (.istore_n 2, 1) := by decide +kernel
theorem d_Model_isWhole_15 : decode u_Model_isWhole.2.2.1 15 = .ok (.iload_n 2, 1) := by decide +kernel
theorem d_Model_isWhole_16 : decode u_Model_isWhole.2.2.1 16 = .ok (.aload_n 0, 1) := by decide +kernel
theorem d_Model_isWhole_17 : decode u_Model_isWhole.2.2.1 17 = .ok (.getfield 222, 3) := by decide +kernel
theorem d_Model_isWhole_20 : decode u_Model_isWhole.2.2.1 20 = .ok (.if_icmp .ge 45, 3) := by decide +kernel
theorem d_Model_isWhole_23 : decode u_Model_isWhole.2.2.1 23 = .ok (.aload_n 0, 1) := by decide +kernel
theorem d_Model_isWhole_24 : decode u_Model_isWhole.2.2.1 24 = .ok (.getfield 87, 3) := by decide +kernel
theorem d_Model_isWhole_27 : decode u_Model_isWhole.2.2.1 27 = .ok (.iload_n 2, 1) := by decide +kernel
theorem d_Model_isWhole_28 : decode u_Model_isWhole.2.2.1 28 = .ok (.aload_n 0, 1) := by decide +kernel
theorem d_Model_isWhole_29 : decode u_Model_isWhole.2.2.1 29 = .ok (.getfield 84, 3) := by decide +kernel
theorem d_Model_isWhole_32 : decode u_Model_isWhole.2.2.1 32 = .ok (.iload_n 2, 1) := by decide +kernel
theorem d_Model_isWhole_33 : decode u_Model_isWhole.2.2.1 33 = .ok (.iaload, 1) := by decide +kernel
theorem d_Model_isWhole_34 : decode u_Model_isWhole.2.2.1 34 = .ok (.iastore, 1) := by decide +kernel
theorem d_Model_isWhole_35 : decode u_Model_isWhole.2.2.1 35 = .ok (.iload_n 1, 1) := by decide +kernel
theorem d_Model_isWhole_36 : decode u_Model_isWhole.2.2.1 36 = .ok (.ifCond .eq 21, 3) := by decide +kernel
theorem d_Model_isWhole_39 : decode u_Model_isWhole.2.2.1 39 = .ok (.aload_n 0, 1) := by decide +kernel
theorem d_Model_isWhole_40 : decode u_Model_isWhole.2.2.1 40 = .ok (.getfield 27, 3) := by decide +kernel
theorem d_Model_isWhole_43 : decode u_Model_isWhole.2.2.1 43 = .ok (.aload_n 0, 1) := by decide +kernel
theorem d_Model_isWhole_44 : decode u_Model_isWhole.2.2.1 44 = .ok (.getfield 87, 3) := by decide +kernel
theorem d_Model_isWhole_47 : decode u_Model_isWhole.2.2.1 47 = .ok (.iload_n 2, 1) := by decide +kernel
theorem d_Model_isWhole_48 : decode u_Model_isWhole.2.2.1 48 = .ok (.iaload, 1) := by decide +kernel
theorem d_Model_isWhole_49 : decode u_Model_isWhole.2.2.1 49 = .ok (.baload, 1) := by decide +kernel
theorem d_Model_isWhole_50 : decode u_Model_isWhole.2.2.1 50 = .ok (.ifCond .eq 7, 3) := by decide +kernel
theorem d_Model_isWhole_53 : decode u_Model_isWhole.2.2.1 53 = .ok (.iconst 1, 1) := by decide +kernel
theorem d_Model_isWhole_54 : decode u_Model_isWhole.2.2.1 54 = .ok (.goto 4, 3) := by decide +kernel
theorem d_Model_isWhole_57 : decode u_Model_isWhole.2.2.1 57 = .ok (.iconst 0, 1) := by decide +kernel
theorem d_Model_isWhole_58 : decode u_Model_isWhole.2.2.1 58 = .ok (.istore_n 1, 1) := by decide +kernel
theorem d_Model_isWhole_59 : decode u_Model_isWhole.2.2.1 59 = .ok (.iinc 2 1, 3) := by decide +kernel
theorem d_Model_isWhole_62 : decode u_Model_isWhole.2.2.1 62 = .ok (.goto (-47), 3) := by decide +kernel
theorem d_Model_isWhole_65 : decode u_Model_isWhole.2.2.1 65 = .ok (.aload_n 0, 1) := by decide +kernel
theorem d_Model_isWhole_66 : decode u_Model_isWhole.2.2.1 66 = .ok (.aload_n 0, 1) := by decide +kernel
theorem d_Model_isWhole_67 : decode u_Model_isWhole.2.2.1 67 = .ok (.getfield 222, 3) := by decide +kernel
theorem d_Model_isWhole_70 : decode u_Model_isWhole.2.2.1 70 = .ok (.putfield 203, 3) := by decide +kernel
theorem d_Model_isWhole_73 : decode u_Model_isWhole.2.2.1 73 = .ok (.iload_n 1, 1) := by decide +kernel
theorem d_Model_isWhole_74 : decode u_Model_isWhole.2.2.1 74 = .ok (.ireturn, 1) := by decide +kernel
theorem w_Model_isWhole : am_code y_Model_isWhole u_Model_isWhole ∈ am_ws := am_mem (List.mem_of_getElem? (i := 1247) (by decide +kernel)) rfl
def a_Model_isWhole_0 (rc : Nat → Nat → Int32 → Int32 → Int32 → am_M → Option (Int32 × am_M)) (r0 : Nat) (x1 : Int32) (x2 : Int32) (s0 : Int32) (M : am_M) : Option (Int32 × am_M) := rc 1 r0 s0 (0 : Int32) 0 M
def a_Model_isWhole_1 (rc : Nat → Nat → Int32 → Int32 → Int32 → am_M → Option (Int32 × am_M)) (r0 : Nat) (x1 : Int32) (x2 : Int32) (s0 : Int32) (M : am_M) : Option (Int32 × am_M) := (q_gti M r0 10 26).bind (fun t17 => if t17 ≤ x2 then ((q_gti M r0 10 26).bind (fun t67 => (q_pti M r0 10 28 t67).bind (fun M70 => (q_z x1).bind (fun z74 => some (z74, M70))))) else ((q_gtr M r0 10 27).bind (fun t24 => (q_gtr M r0 10 25).bind (fun t29 => (q_ldi M t29 x2).bind (fun t33 => (q_sti M t24 x2 t33).bind (fun M34 => if x1 = 0 then (rc 2 r0 0 x2 0 M34) else ((q_gtr M34 r0 10 6).bind (fun t40 => (q_gtr M34 r0 10 27).bind (fun t44 => (q_ldi M34 t44 x2).bind (fun t48 => (q_ldz M34 t40 t48).bind (fun t49 => if t49 = 0 then (rc 2 r0 0 x2 0 M34) else (rc 3 r0 0 x2 (1 : Int32) M34))))))))))))
def a_Model_isWhole_2 (rc : Nat → Nat → Int32 → Int32 → Int32 → am_M → Option (Int32 × am_M)) (r0 : Nat) (x1 : Int32) (x2 : Int32) (s0 : Int32) (M : am_M) : Option (Int32 × am_M) := rc 3 r0 0 x2 (0 : Int32) M
def a_Model_isWhole_3 (rc : Nat → Nat → Int32 → Int32 → Int32 → am_M → Option (Int32 × am_M)) (r0 : Nat) (x1 : Int32) (x2 : Int32) (s0 : Int32) (M : am_M) : Option (Int32 × am_M) := rc 1 r0 s0 (x2 + (1 : Int32)) 0 M
def g_Model_isWhole : Nat → Nat → Nat → Int32 → Int32 → Int32 → am_M → Option (Int32 × am_M)
  | 0, _, _, _, _, _, _ => none
  | F + 1, 0, r0, x1, x2, s0, M => a_Model_isWhole_0 (g_Model_isWhole F) r0 x1 x2 s0 M
  | F + 1, 1, r0, x1, x2, s0, M => a_Model_isWhole_1 (g_Model_isWhole F) r0 x1 x2 s0 M
  | F + 1, 2, r0, x1, x2, s0, M => a_Model_isWhole_2 (g_Model_isWhole F) r0 x1 x2 s0 M
  | F + 1, 3, r0, x1, x2, s0, M => a_Model_isWhole_3 (g_Model_isWhole F) r0 x1 x2 s0 M
  | _ + 1, _ + 4, _, _, _, _, _ => none
def e_Model_isWhole (rc : Nat → Nat → Int32 → Int32 → Int32 → am_M → Option (Int32 × am_M)) (M : am_M) (a0 : Nat) : Option (Int32 × am_M) := (q_gti M a0 10 26).bind (fun t1 => if t1 ≤ 0 then (rc 0 a0 0 0 (0 : Int32) M) else (rc 0 a0 0 0 (1 : Int32) M))
def f_Model_isWhole (M : am_M) (a0 : Nat) : Option (Int32 × am_M) := e_Model_isWhole (g_Model_isWhole 1000000000) M a0
theorem fl_Model_27 : am_fl "CrewOfficeModel" 27 10 6 := ⟨by decide, by decide, List.mem_of_getElem? (i := 1012) (by decide +kernel)⟩
set_option maxHeartbeats 4000000 in
theorem s_Model_isWhole_0 {rc : Nat → Nat → Int32 → Int32 → Int32 → am_M → Option (Int32 × am_M)} {res : Int32} {M' : am_M} (ih_0 : ∀ (r0 : Nat) (x1 : Int32) (x2 : Int32) (s0 : Int32) (M : am_M), rc 0 r0 x1 x2 s0 M = some (res, M') → AW u_Model_isWhole R_Model_isWhole 0 0 12 [(0, .ref r0)] [.int s0] M (fun r M2 => r = .inl (some (.int res)) ∧ M2 = M')) (ih_1 : ∀ (r0 : Nat) (x1 : Int32) (x2 : Int32) (s0 : Int32) (M : am_M), rc 1 r0 x1 x2 s0 M = some (res, M') → AW u_Model_isWhole R_Model_isWhole 0 0 15 [(0, .ref r0), (1, .int x1), (2, .int x2)] [] M (fun r M2 => r = .inl (some (.int res)) ∧ M2 = M')) (ih_2 : ∀ (r0 : Nat) (x1 : Int32) (x2 : Int32) (s0 : Int32) (M : am_M), rc 2 r0 x1 x2 s0 M = some (res, M') → AW u_Model_isWhole R_Model_isWhole 0 0 57 [(0, .ref r0), (2, .int x2)] [] M (fun r M2 => r = .inl (some (.int res)) ∧ M2 = M')) (ih_3 : ∀ (r0 : Nat) (x1 : Int32) (x2 : Int32) (s0 : Int32) (M : am_M), rc 3 r0 x1 x2 s0 M = some (res, M') → AW u_Model_isWhole R_Model_isWhole 0 0 58 [(0, .ref r0), (2, .int x2)] [.int s0] M (fun r M2 => r = .inl (some (.int res)) ∧ M2 = M')) : ∀ (r0 : Nat) (x1 : Int32) (x2 : Int32) (s0 : Int32) (M : am_M), a_Model_isWhole_0 rc r0 x1 x2 s0 M = some (res, M') → AW u_Model_isWhole R_Model_isWhole 0 0 12 [(0, .ref r0)] [.int s0] M (fun r M2 => r = .inl (some (.int res)) ∧ M2 = M') := by
  intro r0 x1 x2 s0 M h
  unfold a_Model_isWhole_0 at h
  refine aw_istore_n (ls' := [(1, .int _), (0, .ref _)]) d_Model_isWhole_12 rfl (Nat.le_of_ble_eq_true rfl) rfl ?_
  refine aw_iconst (v := 0) d_Model_isWhole_13 (by decide) ?_
  refine aw_istore_n (ls' := [(2, .int _), (1, .int _), (0, .ref _)]) d_Model_isWhole_14 rfl (Nat.le_of_ble_eq_true rfl) rfl ?_
  exact aw_pick [2, 1, 0] rfl (ih_1 _ _ _ _ _ h)
set_option maxHeartbeats 4000000 in
theorem s_Model_isWhole_1 {rc : Nat → Nat → Int32 → Int32 → Int32 → am_M → Option (Int32 × am_M)} {res : Int32} {M' : am_M} (ih_0 : ∀ (r0 : Nat) (x1 : Int32) (x2 : Int32) (s0 : Int32) (M : am_M), rc 0 r0 x1 x2 s0 M = some (res, M') → AW u_Model_isWhole R_Model_isWhole 0 0 12 [(0, .ref r0)] [.int s0] M (fun r M2 => r = .inl (some (.int res)) ∧ M2 = M')) (ih_1 : ∀ (r0 : Nat) (x1 : Int32) (x2 : Int32) (s0 : Int32) (M : am_M), rc 1 r0 x1 x2 s0 M = some (res, M') → AW u_Model_isWhole R_Model_isWhole 0 0 15 [(0, .ref r0), (1, .int x1), (2, .int x2)] [] M (fun r M2 => r = .inl (some (.int res)) ∧ M2 = M')) (ih_2 : ∀ (r0 : Nat) (x1 : Int32) (x2 : Int32) (s0 : Int32) (M : am_M), rc 2 r0 x1 x2 s0 M = some (res, M') → AW u_Model_isWhole R_Model_isWhole 0 0 57 [(0, .ref r0), (2, .int x2)] [] M (fun r M2 => r = .inl (some (.int res)) ∧ M2 = M')) (ih_3 : ∀ (r0 : Nat) (x1 : Int32) (x2 : Int32) (s0 : Int32) (M : am_M), rc 3 r0 x1 x2 s0 M = some (res, M') → AW u_Model_isWhole R_Model_isWhole 0 0 58 [(0, .ref r0), (2, .int x2)] [.int s0] M (fun r M2 => r = .inl (some (.int res)) ∧ M2 = M')) : ∀ (r0 : Nat) (x1 : Int32) (x2 : Int32) (s0 : Int32) (M : am_M), a_Model_isWhole_1 rc r0 x1 x2 s0 M = some (res, M') → AW u_Model_isWhole R_Model_isWhole 0 0 15 [(0, .ref r0), (1, .int x1), (2, .int x2)] [] M (fun r M2 => r = .inl (some (.int res)) ∧ M2 = M') := by
  intro r0 x1 x2 s0 M h
  unfold a_Model_isWhole_1 at h
  refine aw_iload_n d_Model_isWhole_15 rfl rfl ?_
  refine aw_aload_n d_Model_isWhole_16 rfl rfl ?_
  obtain ⟨t17, e_t17, h⟩ := q_bind h
  refine aw_gti d_Model_isWhole_17 fl_Model_222 (Or.inl rfl) e_t17 ?_
  refine aw_icmp_ge (tgt := 65) d_Model_isWhole_20 (by decide) (fun hc => ?_) (fun hc => ?_)
  · rw [if_pos hc] at h
    refine aw_aload_n d_Model_isWhole_65 rfl rfl ?_
    refine aw_aload_n d_Model_isWhole_66 rfl rfl ?_
    obtain ⟨t67, e_t67, h⟩ := q_bind h
    refine aw_gti d_Model_isWhole_67 fl_Model_222 (Or.inl rfl) e_t67 ?_
    obtain ⟨M70, e_M70, h⟩ := q_bind h
    refine aw_pti d_Model_isWhole_70 fl_Model_203 rfl rfl e_M70 ?_
    refine aw_iload_n d_Model_isWhole_73 rfl rfl ?_
    obtain ⟨z74, e_z74, h⟩ := q_bind h
    obtain ⟨hz, hn⟩ := q_z_spec e_z74
    cases h
    rw [hz]
    exact aw_zreturn d_Model_isWhole_74 rfl hn (Nat.le_of_ble_eq_true rfl) (Nat.le_of_ble_eq_true rfl) ⟨rfl, rfl⟩
  · rw [if_neg hc] at h
    refine aw_aload_n d_Model_isWhole_23 rfl rfl ?_
    obtain ⟨t24, e_t24, h⟩ := q_bind h
    refine aw_gtr d_Model_isWhole_24 fl_Model_87 (Or.inr ⟨_, rfl⟩) e_t24 ?_
    refine aw_iload_n d_Model_isWhole_27 rfl rfl ?_
    refine aw_aload_n d_Model_isWhole_28 rfl rfl ?_
    obtain ⟨t29, e_t29, h⟩ := q_bind h
    refine aw_gtr d_Model_isWhole_29 fl_Model_84 (Or.inr ⟨_, rfl⟩) e_t29 ?_
    refine aw_iload_n d_Model_isWhole_32 rfl rfl ?_
    obtain ⟨t33, e_t33, h⟩ := q_bind h
    refine aw_ldi d_Model_isWhole_33 e_t33 ?_
    obtain ⟨M34, e_M34, h⟩ := q_bind h
    refine aw_sti d_Model_isWhole_34 e_M34 ?_
    refine aw_iload_n d_Model_isWhole_35 rfl rfl ?_
    refine aw_if_eq (tgt := 57) d_Model_isWhole_36 (by decide) (fun hc => ?_) (fun hc => ?_)
    · rw [if_pos hc] at h
      exact aw_pick [0, 2] rfl (ih_2 _ _ _ _ _ h)
    · rw [if_neg hc] at h
      refine aw_aload_n d_Model_isWhole_39 rfl rfl ?_
      obtain ⟨t40, e_t40, h⟩ := q_bind h
      refine aw_gtr d_Model_isWhole_40 fl_Model_27 (Or.inr ⟨_, rfl⟩) e_t40 ?_
      refine aw_aload_n d_Model_isWhole_43 rfl rfl ?_
      obtain ⟨t44, e_t44, h⟩ := q_bind h
      refine aw_gtr d_Model_isWhole_44 fl_Model_87 (Or.inr ⟨_, rfl⟩) e_t44 ?_
      refine aw_iload_n d_Model_isWhole_47 rfl rfl ?_
      obtain ⟨t48, e_t48, h⟩ := q_bind h
      refine aw_ldi d_Model_isWhole_48 e_t48 ?_
      obtain ⟨t49, e_t49, h⟩ := q_bind h
      refine aw_ldz d_Model_isWhole_49 e_t49 ?_
      refine aw_if_eq (tgt := 57) d_Model_isWhole_50 (by decide) (fun hc => ?_) (fun hc => ?_)
      · rw [if_pos hc] at h
        exact aw_pick [0, 2] rfl (ih_2 _ _ _ _ _ h)
      · rw [if_neg hc] at h
        refine aw_iconst (v := 1) d_Model_isWhole_53 (by decide) ?_
        refine aw_goto (tgt := 58) d_Model_isWhole_54 (by decide) ?_
        exact aw_pick [0, 2] rfl (ih_3 _ _ _ _ _ h)
set_option maxHeartbeats 4000000 in
theorem s_Model_isWhole_2 {rc : Nat → Nat → Int32 → Int32 → Int32 → am_M → Option (Int32 × am_M)} {res : Int32} {M' : am_M} (ih_0 : ∀ (r0 : Nat) (x1 : Int32) (x2 : Int32) (s0 : Int32) (M : am_M), rc 0 r0 x1 x2 s0 M = some (res, M') → AW u_Model_isWhole R_Model_isWhole 0 0 12 [(0, .ref r0)] [.int s0] M (fun r M2 => r = .inl (some (.int res)) ∧ M2 = M')) (ih_1 : ∀ (r0 : Nat) (x1 : Int32) (x2 : Int32) (s0 : Int32) (M : am_M), rc 1 r0 x1 x2 s0 M = some (res, M') → AW u_Model_isWhole R_Model_isWhole 0 0 15 [(0, .ref r0), (1, .int x1), (2, .int x2)] [] M (fun r M2 => r = .inl (some (.int res)) ∧ M2 = M')) (ih_2 : ∀ (r0 : Nat) (x1 : Int32) (x2 : Int32) (s0 : Int32) (M : am_M), rc 2 r0 x1 x2 s0 M = some (res, M') → AW u_Model_isWhole R_Model_isWhole 0 0 57 [(0, .ref r0), (2, .int x2)] [] M (fun r M2 => r = .inl (some (.int res)) ∧ M2 = M')) (ih_3 : ∀ (r0 : Nat) (x1 : Int32) (x2 : Int32) (s0 : Int32) (M : am_M), rc 3 r0 x1 x2 s0 M = some (res, M') → AW u_Model_isWhole R_Model_isWhole 0 0 58 [(0, .ref r0), (2, .int x2)] [.int s0] M (fun r M2 => r = .inl (some (.int res)) ∧ M2 = M')) : ∀ (r0 : Nat) (x1 : Int32) (x2 : Int32) (s0 : Int32) (M : am_M), a_Model_isWhole_2 rc r0 x1 x2 s0 M = some (res, M') → AW u_Model_isWhole R_Model_isWhole 0 0 57 [(0, .ref r0), (2, .int x2)] [] M (fun r M2 => r = .inl (some (.int res)) ∧ M2 = M') := by
  intro r0 x1 x2 s0 M h
  unfold a_Model_isWhole_2 at h
  refine aw_iconst (v := 0) d_Model_isWhole_57 (by decide) ?_
  exact aw_pick [0, 1] rfl (ih_3 _ _ _ _ _ h)
set_option maxHeartbeats 4000000 in
theorem s_Model_isWhole_3 {rc : Nat → Nat → Int32 → Int32 → Int32 → am_M → Option (Int32 × am_M)} {res : Int32} {M' : am_M} (ih_0 : ∀ (r0 : Nat) (x1 : Int32) (x2 : Int32) (s0 : Int32) (M : am_M), rc 0 r0 x1 x2 s0 M = some (res, M') → AW u_Model_isWhole R_Model_isWhole 0 0 12 [(0, .ref r0)] [.int s0] M (fun r M2 => r = .inl (some (.int res)) ∧ M2 = M')) (ih_1 : ∀ (r0 : Nat) (x1 : Int32) (x2 : Int32) (s0 : Int32) (M : am_M), rc 1 r0 x1 x2 s0 M = some (res, M') → AW u_Model_isWhole R_Model_isWhole 0 0 15 [(0, .ref r0), (1, .int x1), (2, .int x2)] [] M (fun r M2 => r = .inl (some (.int res)) ∧ M2 = M')) (ih_2 : ∀ (r0 : Nat) (x1 : Int32) (x2 : Int32) (s0 : Int32) (M : am_M), rc 2 r0 x1 x2 s0 M = some (res, M') → AW u_Model_isWhole R_Model_isWhole 0 0 57 [(0, .ref r0), (2, .int x2)] [] M (fun r M2 => r = .inl (some (.int res)) ∧ M2 = M')) (ih_3 : ∀ (r0 : Nat) (x1 : Int32) (x2 : Int32) (s0 : Int32) (M : am_M), rc 3 r0 x1 x2 s0 M = some (res, M') → AW u_Model_isWhole R_Model_isWhole 0 0 58 [(0, .ref r0), (2, .int x2)] [.int s0] M (fun r M2 => r = .inl (some (.int res)) ∧ M2 = M')) : ∀ (r0 : Nat) (x1 : Int32) (x2 : Int32) (s0 : Int32) (M : am_M), a_Model_isWhole_3 rc r0 x1 x2 s0 M = some (res, M') → AW u_Model_isWhole R_Model_isWhole 0 0 58 [(0, .ref r0), (2, .int x2)] [.int s0] M (fun r M2 => r = .inl (some (.int res)) ∧ M2 = M') := by
  intro r0 x1 x2 s0 M h
  unfold a_Model_isWhole_3 at h
  refine aw_istore_n (ls' := [(1, .int _), (0, .ref _), (2, .int _)]) d_Model_isWhole_58 rfl (Nat.le_of_ble_eq_true rfl) rfl ?_
  refine aw_iinc (v := (x2 + (1 : Int32))) (ls' := [(2, .int _), (1, .int _), (0, .ref _)]) d_Model_isWhole_59 rfl rfl (Nat.le_of_ble_eq_true rfl) rfl ?_
  refine aw_goto (tgt := 15) d_Model_isWhole_62 (by decide) ?_
  exact aw_pick [2, 1, 0] rfl (ih_1 _ _ _ _ _ h)
theorem l_Model_isWhole {res : Int32} {M' : am_M} : ∀ F : Nat, (∀ (r0 : Nat) (x1 : Int32) (x2 : Int32) (s0 : Int32) (M : am_M), g_Model_isWhole F 0 r0 x1 x2 s0 M = some (res, M') → AW u_Model_isWhole R_Model_isWhole 0 0 12 [(0, .ref r0)] [.int s0] M (fun r M2 => r = .inl (some (.int res)) ∧ M2 = M')) ∧ (∀ (r0 : Nat) (x1 : Int32) (x2 : Int32) (s0 : Int32) (M : am_M), g_Model_isWhole F 1 r0 x1 x2 s0 M = some (res, M') → AW u_Model_isWhole R_Model_isWhole 0 0 15 [(0, .ref r0), (1, .int x1), (2, .int x2)] [] M (fun r M2 => r = .inl (some (.int res)) ∧ M2 = M')) ∧ (∀ (r0 : Nat) (x1 : Int32) (x2 : Int32) (s0 : Int32) (M : am_M), g_Model_isWhole F 2 r0 x1 x2 s0 M = some (res, M') → AW u_Model_isWhole R_Model_isWhole 0 0 57 [(0, .ref r0), (2, .int x2)] [] M (fun r M2 => r = .inl (some (.int res)) ∧ M2 = M')) ∧ (∀ (r0 : Nat) (x1 : Int32) (x2 : Int32) (s0 : Int32) (M : am_M), g_Model_isWhole F 3 r0 x1 x2 s0 M = some (res, M') → AW u_Model_isWhole R_Model_isWhole 0 0 58 [(0, .ref r0), (2, .int x2)] [.int s0] M (fun r M2 => r = .inl (some (.int res)) ∧ M2 = M')) := by
  intro F
  induction F with
  | zero => exact ⟨fun _ _ _ _ _  h => (by cases h), fun _ _ _ _ _  h => (by cases h), fun _ _ _ _ _  h => (by cases h), fun _ _ _ _ _  h => (by cases h)⟩
  | succ F ih =>
    obtain ⟨ih0, ih1, ih2, ih3⟩ := ih
    exact ⟨s_Model_isWhole_0 ih0 ih1 ih2 ih3, s_Model_isWhole_1 ih0 ih1 ih2 ih3, s_Model_isWhole_2 ih0 ih1 ih2 ih3, s_Model_isWhole_3 ih0 ih1 ih2 ih3⟩
set_option maxHeartbeats 4000000 in
theorem mt_Model_isWhole {M : am_M} {a0 : Nat} {res : Int32} {M' : am_M} (h : f_Model_isWhole M a0 = some (res, M')) : AMet y_Model_isWhole u_Model_isWhole R_Model_isWhole [.ref a0] M (fun r M2 => r = .inl (some (.int res)) ∧ M2 = M') := by
  refine am_met (by decide +kernel) w_Model_isWhole rfl rfl (Nat.le_of_ble_eq_true rfl) ?_
  show AW u_Model_isWhole R_Model_isWhole 0 0 0 [(0, .ref a0)] [] M (fun r M2 => r = .inl (some (.int res)) ∧ M2 = M')
  have ih_0 := (l_Model_isWhole (res := res) (M' := M') 1000000000).1
  have ih_1 := (l_Model_isWhole (res := res) (M' := M') 1000000000).2.1
  have ih_2 := (l_Model_isWhole (res := res) (M' := M') 1000000000).2.2.1
  have ih_3 := (l_Model_isWhole (res := res) (M' := M') 1000000000).2.2.2
  unfold f_Model_isWhole at h
  unfold e_Model_isWhole at h
  generalize g_Model_isWhole 1000000000 = rc at h ih_0 ih_1 ih_2 ih_3
  refine aw_aload_n d_Model_isWhole_0 rfl rfl ?_
  obtain ⟨t1, e_t1, h⟩ := q_bind h
  refine aw_gti d_Model_isWhole_1 fl_Model_222 (Or.inl rfl) e_t1 ?_
  refine aw_if_le (tgt := 11) d_Model_isWhole_4 (by decide) (fun hc => ?_) (fun hc => ?_)
  · rw [if_pos hc] at h
    refine aw_iconst (v := 0) d_Model_isWhole_11 (by decide) ?_
    exact aw_pick [0] rfl (ih_0 _ _ _ _ _ h)
  · rw [if_neg hc] at h
    refine aw_iconst (v := 1) d_Model_isWhole_7 (by decide) ?_
    refine aw_goto (tgt := 12) d_Model_isWhole_8 (by decide) ?_
    exact aw_pick [0] rfl (ih_0 _ _ _ _ _ h)
def y_Model_span : MethodName := ⟨"CrewOfficeModel", "span", "(I)I"⟩
def u_Model_span : am_U := ("CrewOfficeModel", "span", prog_12_method_31_code, 4, (some .int), [])
def R_Model_span : Room := { frames := 1, cells := 0, slots := 0, locals := 22 }
theorem d_Model_span_0 : decode u_Model_span.2.2.1 0 = .ok (.aload_n 0, 1) := by decide +kernel
theorem d_Model_span_1 : decode u_Model_span.2.2.1 1 = .ok (.iload_n 1, 1) := by decide +kernel
theorem d_Model_span_2 : decode u_Model_span.2.2.1 2 = .ok (.iconst 0, 1) := by decide +kernel
theorem d_Model_span_3 : decode u_Model_span.2.2.1 3 = .ok (.iconst 4, 1) := by decide +kernel
theorem d_Model_span_4 : decode u_Model_span.2.2.1 4 = .ok (.invokestatic 180, 3) := by decide +kernel
theorem d_Model_span_7 : decode u_Model_span.2.2.1 7 = .ok (.ifCond .ne 7, 3) := by decide +kernel
theorem d_Model_span_10 : decode u_Model_span.2.2.1 10 = .ok (.iconst 1, 1) := by decide +kernel
theorem d_Model_span_11 : decode u_Model_span.2.2.1 11 = .ok (.goto 4, 3) := by decide +kernel
theorem d_Model_span_14 : decode u_Model_span.2.2.1 14 = .ok (.iconst 0, 1) := by decide +kernel
theorem d_Model_span_15 : decode u_Model_span.2.2.1 15 = .ok (.iconst 1, 1) := by decide +kernel
theorem d_Model_span_16 : decode u_Model_span.2.2.1 16 = .ok (.invokevirtual 184, 3) := by decide +kernel
theorem d_Model_span_19 : decode u_Model_span.2.2.1 19 = .ok (.ifCond .ne 23, 3) := by decide +kernel
theorem d_Model_span_22 : decode u_Model_span.2.2.1 22 = .ok (.aload_n 0, 1) := by decide +kernel
theorem d_Model_span_23 : decode u_Model_span.2.2.1 23 = .ok (.aload_n 0, 1) := by decide +kernel
theorem d_Model_span_24 : decode u_Model_span.2.2.1 24 = .ok (.invokevirtual 225, 3) := by decide +kernel
theorem d_Model_span_27 : decode u_Model_span.2.2.1 27 = .ok (.ifCond .ne 7, 3) := by decide +kernel
theorem d_Model_span_30 : decode u_Model_span.2.2.1 30 = .ok (.iconst 1, 1) := by decide +kernel
theorem d_Model_span_31 : decode u_Model_span.2.2.1 31 = .ok (.goto 4, 3) := by decide +kernel
theorem d_Model_span_34 : decode u_Model_span.2.2.1 34 = .ok (.iconst 0, 1) := by decide +kernel
theorem d_Model_span_35 : decode u_Model_span.2.2.1 35 = .ok (.iconst 2, 1) := by decide +kernel
theorem d_Model_span_36 : decode u_Model_span.2.2.1 36 = .ok (.invokevirtual 184, 3) := by decide +kernel
theorem d_Model_span_39 : decode u_Model_span.2.2.1 39 = .ok (.ifCond .eq 5, 3) := by decide +kernel
theorem d_Model_span_42 : decode u_Model_span.2.2.1 42 = .ok (.iconst 0, 1) := by decide +kernel
theorem d_Model_span_43 : decode u_Model_span.2.2.1 43 = .ok (.ireturn, 1) := by decide +kernel
theorem d_Model_span_44 : decode u_Model_span.2.2.1 44 = .ok (.aload_n 0, 1) := by decide +kernel
theorem d_Model_span_45 : decode u_Model_span.2.2.1 45 = .ok (.invokevirtual 206, 3) := by decide +kernel
theorem d_Model_span_48 : decode u_Model_span.2.2.1 48 = .ok (.iload_n 1, 1) := by decide +kernel
theorem d_Model_span_49 : decode u_Model_span.2.2.1 49 = .ok (.tableswitch 60 0 3 #[31, 38, 50, 55], 31) := by decide +kernel
theorem d_Model_span_80 : decode u_Model_span.2.2.1 80 = .ok (.aload_n 0, 1) := by decide +kernel
theorem d_Model_span_81 : decode u_Model_span.2.2.1 81 = .ok (.getfield 96, 3) := by decide +kernel
theorem d_Model_span_84 : decode u_Model_span.2.2.1 84 = .ok (.iconst 0, 1) := by decide +kernel
theorem d_Model_span_85 : decode u_Model_span.2.2.1 85 = .ok (.iaload, 1) := by decide +kernel
theorem d_Model_span_86 : decode u_Model_span.2.2.1 86 = .ok (.ireturn, 1) := by decide +kernel
theorem d_Model_span_87 : decode u_Model_span.2.2.1 87 = .ok (.aload_n 0, 1) := by decide +kernel
theorem d_Model_span_88 : decode u_Model_span.2.2.1 88 = .ok (.getfield 99, 3) := by decide +kernel
theorem d_Model_span_91 : decode u_Model_span.2.2.1 91 = .ok (.aload_n 0, 1) := by decide +kernel
theorem d_Model_span_92 : decode u_Model_span.2.2.1 92 = .ok (.getfield 200, 3) := by decide +kernel
theorem d_Model_span_95 : decode u_Model_span.2.2.1 95 = .ok (.iconst 1, 1) := by decide +kernel
theorem d_Model_span_96 : decode u_Model_span.2.2.1 96 = .ok (.isub, 1) := by decide +kernel
theorem d_Model_span_97 : decode u_Model_span.2.2.1 97 = .ok (.iaload, 1) := by decide +kernel
theorem d_Model_span_98 : decode u_Model_span.2.2.1 98 = .ok (.ireturn, 1) := by decide +kernel
theorem d_Model_span_99 : decode u_Model_span.2.2.1 99 = .ok (.aload_n 0, 1) := by decide +kernel
theorem d_Model_span_100 : decode u_Model_span.2.2.1 100 = .ok (.getfield 200, 3) := by decide +kernel
theorem d_Model_span_103 : decode u_Model_span.2.2.1 103 = .ok (.ireturn, 1) := by decide +kernel
theorem d_Model_span_104 : decode u_Model_span.2.2.1 104 = .ok (.aload_n 0, 1) := by decide +kernel
theorem d_Model_span_105 : decode u_Model_span.2.2.1 105 = .ok (.invokevirtual 219, 3) := by decide +kernel
theorem d_Model_span_108 : decode u_Model_span.2.2.1 108 = .ok (.ireturn, 1) := by decide +kernel
theorem d_Model_span_109 : decode u_Model_span.2.2.1 109 = .ok (.aload_n 0, 1) := by decide +kernel
theorem d_Model_span_110 : decode u_Model_span.2.2.1 110 = .ok (.getfield 99, 3) := by decide +kernel
theorem d_Model_span_113 : decode u_Model_span.2.2.1 113 = .ok (.iconst 0, 1) := by decide +kernel
theorem d_Model_span_114 : decode u_Model_span.2.2.1 114 = .ok (.iaload, 1) := by decide +kernel
theorem d_Model_span_115 : decode u_Model_span.2.2.1 115 = .ok (.aload_n 0, 1) := by decide +kernel
theorem d_Model_span_116 : decode u_Model_span.2.2.1 116 = .ok (.getfield 96, 3) := by decide +kernel
theorem d_Model_span_119 : decode u_Model_span.2.2.1 119 = .ok (.iconst 0, 1) := by decide +kernel
theorem d_Model_span_120 : decode u_Model_span.2.2.1 120 = .ok (.iaload, 1) := by decide +kernel
theorem d_Model_span_121 : decode u_Model_span.2.2.1 121 = .ok (.isub, 1) := by decide +kernel
theorem d_Model_span_122 : decode u_Model_span.2.2.1 122 = .ok (.istore_n 2, 1) := by decide +kernel
theorem d_Model_span_123 : decode u_Model_span.2.2.1 123 = .ok (.iconst 1, 1) := by decide +kernel
theorem d_Model_span_124 : decode u_Model_span.2.2.1 124 = .ok (.istore_n 3, 1) := by decide +kernel
theorem d_Model_span_125 : decode u_Model_span.2.2.1 125 = .ok (.iload_n 3, 1) := by decide +kernel
theorem d_Model_span_126 : decode u_Model_span.2.2.1 126 = .ok (.aload_n 0, 1) := by decide +kernel
theorem d_Model_span_127 : decode u_Model_span.2.2.1 127 = .ok (.getfield 200, 3) := by decide +kernel
theorem d_Model_span_130 : decode u_Model_span.2.2.1 130 = .ok (.if_icmp .ge 44, 3) := by decide +kernel
theorem d_Model_span_133 : decode u_Model_span.2.2.1 133 = .ok (.aload_n 0, 1) := by decide +kernel
theorem d_Model_span_134 : decode u_Model_span.2.2.1 134 = .ok (.getfield 99, 3) := by decide +kernel
theorem d_Model_span_137 : decode u_Model_span.2.2.1 137 = .ok (.iload_n 3, 1) := by decide +kernel
theorem d_Model_span_138 : decode u_Model_span.2.2.1 138 = .ok (.iaload, 1) := by decide +kernel
theorem d_Model_span_139 : decode u_Model_span.2.2.1 139 = .ok (.aload_n 0, 1) := by decide +kernel
theorem d_Model_span_140 : decode u_Model_span.2.2.1 140 = .ok (.getfield 96, 3) := by decide +kernel
theorem d_Model_span_143 : decode u_Model_span.2.2.1 143 = .ok (.iload_n 3, 1) := by decide +kernel
theorem d_Model_span_144 : decode u_Model_span.2.2.1 144 = .ok (.iaload, 1) := by decide +kernel
theorem d_Model_span_145 : decode u_Model_span.2.2.1 145 = .ok (.isub, 1) := by decide +kernel
theorem d_Model_span_146 : decode u_Model_span.2.2.1 146 = .ok (.iload_n 2, 1) := by decide +kernel
theorem d_Model_span_147 : decode u_Model_span.2.2.1 147 = .ok (.if_icmp .le 19, 3) := by decide +kernel
theorem d_Model_span_150 : decode u_Model_span.2.2.1 150 = .ok (.aload_n 0, 1) := by decide +kernel
theorem d_Model_span_151 : decode u_Model_span.2.2.1 151 = .ok (.getfield 99, 3) := by decide +kernel
theorem d_Model_span_154 : decode u_Model_span.2.2.1 154 = .ok (.iload_n 3, 1) := by decide +kernel
theorem d_Model_span_155 : decode u_Model_span.2.2.1 155 = .ok (.iaload, 1) := by decide +kernel
theorem d_Model_span_156 : decode u_Model_span.2.2.1 156 = .ok (.aload_n 0, 1) := by decide +kernel
theorem d_Model_span_157 : decode u_Model_span.2.2.1 157 = .ok (.getfield 96, 3) := by decide +kernel
theorem d_Model_span_160 : decode u_Model_span.2.2.1 160 = .ok (.iload_n 3, 1) := by decide +kernel
theorem d_Model_span_161 : decode u_Model_span.2.2.1 161 = .ok (.iaload, 1) := by decide +kernel
theorem d_Model_span_162 : decode u_Model_span.2.2.1 162 = .ok (.isub, 1) := by decide +kernel
theorem d_Model_span_163 : decode u_Model_span.2.2.1 163 = .ok (.goto 4, 3) := by decide +kernel
theorem d_Model_span_166 : decode u_Model_span.2.2.1 166 = .ok (.iload_n 2, 1) := by decide +kernel
theorem d_Model_span_167 : decode u_Model_span.2.2.1 167 = .ok (.istore_n 2, 1) := by decide +kernel
theorem d_Model_span_168 : decode u_Model_span.2.2.1 168 = .ok (.iinc 3 1, 3) := by decide +kernel
theorem d_Model_span_171 : decode u_Model_span.2.2.1 171 = .ok (.goto (-46), 3) := by decide +kernel
theorem d_Model_span_174 : decode u_Model_span.2.2.1 174 = .ok (.iload_n 2, 1) := by decide +kernel
theorem d_Model_span_175 : decode u_Model_span.2.2.1 175 = .ok (.ireturn, 1) := by decide +kernel
theorem w_Model_span : am_code y_Model_span u_Model_span ∈ am_ws := am_mem (List.mem_of_getElem? (i := 1288) (by decide +kernel)) rfl
def a_Model_span_0 (rc : Nat → Nat → Int32 → Int32 → Int32 → Int32 → Nat → am_M → Option (Int32 × am_M)) (r0 : Nat) (x1 : Int32) (x2 : Int32) (x3 : Int32) (s0 : Int32) (sr1 : Nat) (M : am_M) : Option (Int32 × am_M) := (q_ob M sr1 10).bind (fun o16 => (f_Model_fails M sr1 s0 (1 : Int32)).bind (fun p16 => if p16.1 = 0 then ((q_ob p16.2 r0 10).bind (fun o24 => (f_Model_isWhole p16.2 r0).bind (fun p24 => if p24.1 = 0 then (rc 1 r0 x1 0 0 (1 : Int32) r0 p24.2) else (rc 1 r0 x1 0 0 (0 : Int32) r0 p24.2)))) else (some ((0 : Int32), p16.2))))
def a_Model_span_1 (rc : Nat → Nat → Int32 → Int32 → Int32 → Int32 → Nat → am_M → Option (Int32 × am_M)) (r0 : Nat) (x1 : Int32) (x2 : Int32) (x3 : Int32) (s0 : Int32) (sr1 : Nat) (M : am_M) : Option (Int32 × am_M) := (q_ob M sr1 10).bind (fun o36 => (f_Model_fails M sr1 s0 (2 : Int32)).bind (fun p36 => if p36.1 = 0 then ((q_ob p36.2 r0 10).bind (fun o45 => (f_Model_parts p36.2 r0).bind (fun p45 => if x1 = (0 : Int32) then ((q_gtr p45.2 r0 10 32).bind (fun t81 => (q_ldi p45.2 t81 (0 : Int32)).bind (fun t85 => some (t85, p45.2)))) else if x1 = (1 : Int32) then ((q_gtr p45.2 r0 10 33).bind (fun t88 => (q_gti p45.2 r0 10 29).bind (fun t92 => (q_ldi p45.2 t88 (t92 - (1 : Int32))).bind (fun t97 => some (t97, p45.2))))) else if x1 = (2 : Int32) then ((q_gti p45.2 r0 10 29).bind (fun t100 => some (t100, p45.2))) else if x1 = (3 : Int32) then ((q_ob p45.2 r0 10).bind (fun o105 => (f_Model_flying p45.2 r0).bind (fun t105 => some (t105, p45.2)))) else ((q_gtr p45.2 r0 10 33).bind (fun t110 => (q_ldi p45.2 t110 (0 : Int32)).bind (fun t114 => (q_gtr p45.2 r0 10 32).bind (fun t116 => (q_ldi p45.2 t116 (0 : Int32)).bind (fun t120 => rc 2 r0 0 (t114 - t120) (1 : Int32) 0 0 p45.2)))))))) else (some ((0 : Int32), p36.2))))
def a_Model_span_2 (rc : Nat → Nat → Int32 → Int32 → Int32 → Int32 → Nat → am_M → Option (Int32 × am_M)) (r0 : Nat) (x1 : Int32) (x2 : Int32) (x3 : Int32) (s0 : Int32) (sr1 : Nat) (M : am_M) : Option (Int32 × am_M) := (q_gti M r0 10 29).bind (fun t127 => if t127 ≤ x3 then (some (x2, M)) else ((q_gtr M r0 10 33).bind (fun t134 => (q_ldi M t134 x3).bind (fun t138 => (q_gtr M r0 10 32).bind (fun t140 => (q_ldi M t140 x3).bind (fun t144 => if (t138 - t144) ≤ x2 then (rc 3 r0 0 0 x3 x2 0 M) else ((q_gtr M r0 10 33).bind (fun t151 => (q_ldi M t151 x3).bind (fun t155 => (q_gtr M r0 10 32).bind (fun t157 => (q_ldi M t157 x3).bind (fun t161 => rc 3 r0 0 0 x3 (t155 - t161) 0 M)))))))))))
def a_Model_span_3 (rc : Nat → Nat → Int32 → Int32 → Int32 → Int32 → Nat → am_M → Option (Int32 × am_M)) (r0 : Nat) (x1 : Int32) (x2 : Int32) (x3 : Int32) (s0 : Int32) (sr1 : Nat) (M : am_M) : Option (Int32 × am_M) := rc 2 r0 0 s0 (x3 + (1 : Int32)) 0 0 M
def g_Model_span : Nat → Nat → Nat → Int32 → Int32 → Int32 → Int32 → Nat → am_M → Option (Int32 × am_M)
  | 0, _, _, _, _, _, _, _, _ => none
  | F + 1, 0, r0, x1, x2, x3, s0, sr1, M => a_Model_span_0 (g_Model_span F) r0 x1 x2 x3 s0 sr1 M
  | F + 1, 1, r0, x1, x2, x3, s0, sr1, M => a_Model_span_1 (g_Model_span F) r0 x1 x2 x3 s0 sr1 M
  | F + 1, 2, r0, x1, x2, x3, s0, sr1, M => a_Model_span_2 (g_Model_span F) r0 x1 x2 x3 s0 sr1 M
  | F + 1, 3, r0, x1, x2, x3, s0, sr1, M => a_Model_span_3 (g_Model_span F) r0 x1 x2 x3 s0 sr1 M
  | _ + 1, _ + 4, _, _, _, _, _, _, _ => none
def e_Model_span (rc : Nat → Nat → Int32 → Int32 → Int32 → Int32 → Nat → am_M → Option (Int32 × am_M)) (M : am_M) (a0 : Nat) (a1 : Int32) : Option (Int32 × am_M) := (f_Model_within M a1 (0 : Int32) (4 : Int32)).bind (fun t4 => if t4 = 0 then (rc 0 a0 a1 0 0 (1 : Int32) a0 M) else (rc 0 a0 a1 0 0 (0 : Int32) a0 M))
def f_Model_span (M : am_M) (a0 : Nat) (a1 : Int32) : Option (Int32 × am_M) := e_Model_span (g_Model_span 1000000000) M a0 a1
theorem kV_Model_206 : am_kV "CrewOfficeModel" 206 10 y_Model_parts u_Model_parts 0 := ⟨List.mem_of_getElem? (i := 1252) (by decide +kernel), ⟨List.mem_of_getElem? (i := 1254) (by decide +kernel), List.mem_of_getElem? (i := 34) (by decide +kernel)⟩, List.mem_of_getElem? (i := 65) (by decide +kernel), w_Model_parts, ⟨⟨by decide +kernel, by decide +kernel⟩, by decide +kernel⟩⟩
theorem kV_Model_225 : am_kV "CrewOfficeModel" 225 10 y_Model_isWhole u_Model_isWhole 0 := ⟨List.mem_of_getElem? (i := 1244) (by decide +kernel), ⟨List.mem_of_getElem? (i := 1246) (by decide +kernel), List.mem_of_getElem? (i := 32) (by decide +kernel)⟩, List.mem_of_getElem? (i := 65) (by decide +kernel), w_Model_isWhole, ⟨⟨by decide +kernel, by decide +kernel⟩, by decide +kernel⟩⟩
set_option maxHeartbeats 4000000 in
theorem s_Model_span_0 {rc : Nat → Nat → Int32 → Int32 → Int32 → Int32 → Nat → am_M → Option (Int32 × am_M)} {res : Int32} {M' : am_M} (ih_0 : ∀ (r0 : Nat) (x1 : Int32) (x2 : Int32) (x3 : Int32) (s0 : Int32) (sr1 : Nat) (M : am_M), rc 0 r0 x1 x2 x3 s0 sr1 M = some (res, M') → AW u_Model_span R_Model_span 0 0 15 [(0, .ref r0), (1, .int x1)] [.int s0, .ref sr1] M (fun r M2 => r = .inl (some (.int res)) ∧ M2 = M')) (ih_1 : ∀ (r0 : Nat) (x1 : Int32) (x2 : Int32) (x3 : Int32) (s0 : Int32) (sr1 : Nat) (M : am_M), rc 1 r0 x1 x2 x3 s0 sr1 M = some (res, M') → AW u_Model_span R_Model_span 0 0 35 [(0, .ref r0), (1, .int x1)] [.int s0, .ref sr1] M (fun r M2 => r = .inl (some (.int res)) ∧ M2 = M')) (ih_2 : ∀ (r0 : Nat) (x1 : Int32) (x2 : Int32) (x3 : Int32) (s0 : Int32) (sr1 : Nat) (M : am_M), rc 2 r0 x1 x2 x3 s0 sr1 M = some (res, M') → AW u_Model_span R_Model_span 0 0 125 [(0, .ref r0), (2, .int x2), (3, .int x3)] [] M (fun r M2 => r = .inl (some (.int res)) ∧ M2 = M')) (ih_3 : ∀ (r0 : Nat) (x1 : Int32) (x2 : Int32) (x3 : Int32) (s0 : Int32) (sr1 : Nat) (M : am_M), rc 3 r0 x1 x2 x3 s0 sr1 M = some (res, M') → AW u_Model_span R_Model_span 0 0 167 [(0, .ref r0), (3, .int x3)] [.int s0] M (fun r M2 => r = .inl (some (.int res)) ∧ M2 = M')) : ∀ (r0 : Nat) (x1 : Int32) (x2 : Int32) (x3 : Int32) (s0 : Int32) (sr1 : Nat) (M : am_M), a_Model_span_0 rc r0 x1 x2 x3 s0 sr1 M = some (res, M') → AW u_Model_span R_Model_span 0 0 15 [(0, .ref r0), (1, .int x1)] [.int s0, .ref sr1] M (fun r M2 => r = .inl (some (.int res)) ∧ M2 = M') := by
  intro r0 x1 x2 x3 s0 sr1 M h
  unfold a_Model_span_0 at h
  refine aw_iconst (v := 1) d_Model_span_15 (by decide) ?_
  obtain ⟨o16, e_o16, h⟩ := q_bind h
  obtain ⟨⟨t16, M16⟩, e_t16, h⟩ := q_bind h
  dsimp only at h
  refine aw_cV (v := (some (.int t16))) (As := [.int s0, .int (1 : Int32)]) (rest := []) (st' := [.int t16]) d_Model_span_16 kV_Model_184 (q_ob_spec e_o16).1 (q_ob_spec e_o16).2 ⟨Nat.le_of_ble_eq_true rfl, Nat.le_of_ble_eq_true rfl, Nat.le_of_ble_eq_true rfl, Nat.le_of_ble_eq_true rfl⟩ rfl rfl (Nat.le_of_ble_eq_true rfl) rfl (mt_Model_fails e_t16) ?_
  refine aw_if_ne (tgt := 42) d_Model_span_19 (by decide) (fun hc => ?_) (fun hc => ?_)
  · rw [if_neg hc] at h
    refine aw_iconst (v := 0) d_Model_span_42 (by decide) ?_
    cases h
    exact aw_ireturn d_Model_span_43 rfl (Nat.le_of_ble_eq_true rfl) (Nat.le_of_ble_eq_true rfl) ⟨rfl, rfl⟩
  · rw [if_pos hc] at h
    refine aw_aload_n d_Model_span_22 rfl rfl ?_
    refine aw_aload_n d_Model_span_23 rfl rfl ?_
    obtain ⟨o24, e_o24, h⟩ := q_bind h
    obtain ⟨⟨t24, M24⟩, e_t24, h⟩ := q_bind h
    dsimp only at h
    refine aw_cV (v := (some (.int t24))) (As := []) (rest := [.ref r0]) (st' := [.int t24, .ref r0]) d_Model_span_24 kV_Model_225 (q_ob_spec e_o24).1 (q_ob_spec e_o24).2 ⟨Nat.le_of_ble_eq_true rfl, Nat.le_of_ble_eq_true rfl, Nat.le_of_ble_eq_true rfl, Nat.le_of_ble_eq_true rfl⟩ rfl rfl (Nat.le_of_ble_eq_true rfl) rfl (mt_Model_isWhole e_t24) ?_
    refine aw_if_ne (tgt := 34) d_Model_span_27 (by decide) (fun hc => ?_) (fun hc => ?_)
    · rw [if_neg hc] at h
      refine aw_iconst (v := 0) d_Model_span_34 (by decide) ?_
      exact aw_pick [0, 1] rfl (ih_1 _ _ _ _ _ _ _ h)
    · rw [if_pos hc] at h
      refine aw_iconst (v := 1) d_Model_span_30 (by decide) ?_
      refine aw_goto (tgt := 35) d_Model_span_31 (by decide) ?_
      exact aw_pick [0, 1] rfl (ih_1 _ _ _ _ _ _ _ h)
set_option maxHeartbeats 4000000 in
theorem s_Model_span_1 {rc : Nat → Nat → Int32 → Int32 → Int32 → Int32 → Nat → am_M → Option (Int32 × am_M)} {res : Int32} {M' : am_M} (ih_0 : ∀ (r0 : Nat) (x1 : Int32) (x2 : Int32) (x3 : Int32) (s0 : Int32) (sr1 : Nat) (M : am_M), rc 0 r0 x1 x2 x3 s0 sr1 M = some (res, M') → AW u_Model_span R_Model_span 0 0 15 [(0, .ref r0), (1, .int x1)] [.int s0, .ref sr1] M (fun r M2 => r = .inl (some (.int res)) ∧ M2 = M')) (ih_1 : ∀ (r0 : Nat) (x1 : Int32) (x2 : Int32) (x3 : Int32) (s0 : Int32) (sr1 : Nat) (M : am_M), rc 1 r0 x1 x2 x3 s0 sr1 M = some (res, M') → AW u_Model_span R_Model_span 0 0 35 [(0, .ref r0), (1, .int x1)] [.int s0, .ref sr1] M (fun r M2 => r = .inl (some (.int res)) ∧ M2 = M')) (ih_2 : ∀ (r0 : Nat) (x1 : Int32) (x2 : Int32) (x3 : Int32) (s0 : Int32) (sr1 : Nat) (M : am_M), rc 2 r0 x1 x2 x3 s0 sr1 M = some (res, M') → AW u_Model_span R_Model_span 0 0 125 [(0, .ref r0), (2, .int x2), (3, .int x3)] [] M (fun r M2 => r = .inl (some (.int res)) ∧ M2 = M')) (ih_3 : ∀ (r0 : Nat) (x1 : Int32) (x2 : Int32) (x3 : Int32) (s0 : Int32) (sr1 : Nat) (M : am_M), rc 3 r0 x1 x2 x3 s0 sr1 M = some (res, M') → AW u_Model_span R_Model_span 0 0 167 [(0, .ref r0), (3, .int x3)] [.int s0] M (fun r M2 => r = .inl (some (.int res)) ∧ M2 = M')) : ∀ (r0 : Nat) (x1 : Int32) (x2 : Int32) (x3 : Int32) (s0 : Int32) (sr1 : Nat) (M : am_M), a_Model_span_1 rc r0 x1 x2 x3 s0 sr1 M = some (res, M') → AW u_Model_span R_Model_span 0 0 35 [(0, .ref r0), (1, .int x1)] [.int s0, .ref sr1] M (fun r M2 => r = .inl (some (.int res)) ∧ M2 = M') := by
  intro r0 x1 x2 x3 s0 sr1 M h
  unfold a_Model_span_1 at h
  refine aw_iconst (v := 2) d_Model_span_35 (by decide) ?_
  obtain ⟨o36, e_o36, h⟩ := q_bind h
  obtain ⟨⟨t36, M36⟩, e_t36, h⟩ := q_bind h
  dsimp only at h
  refine aw_cV (v := (some (.int t36))) (As := [.int s0, .int (2 : Int32)]) (rest := []) (st' := [.int t36]) d_Model_span_36 kV_Model_184 (q_ob_spec e_o36).1 (q_ob_spec e_o36).2 ⟨Nat.le_of_ble_eq_true rfl, Nat.le_of_ble_eq_true rfl, Nat.le_of_ble_eq_true rfl, Nat.le_of_ble_eq_true rfl⟩ rfl rfl (Nat.le_of_ble_eq_true rfl) rfl (mt_Model_fails e_t36) ?_
  refine aw_if_eq (tgt := 44) d_Model_span_39 (by decide) (fun hc => ?_) (fun hc => ?_)
  · rw [if_pos hc] at h
    refine aw_aload_n d_Model_span_44 rfl rfl ?_
    obtain ⟨o45, e_o45, h⟩ := q_bind h
    obtain ⟨⟨t45, M45⟩, e_t45, h⟩ := q_bind h
    dsimp only at h
    refine aw_cV (v := none) (As := []) (rest := []) (st' := []) d_Model_span_45 kV_Model_206 (q_ob_spec e_o45).1 (q_ob_spec e_o45).2 ⟨Nat.le_of_ble_eq_true rfl, Nat.le_of_ble_eq_true rfl, Nat.le_of_ble_eq_true rfl, Nat.le_of_ble_eq_true rfl⟩ rfl rfl (Nat.le_of_ble_eq_true rfl) rfl (mt_Model_parts e_t45) ?_
    refine aw_iload_n d_Model_span_48 rfl rfl ?_
    by_cases c49_0 : x1 = (0 : Int32)
    · rw [if_pos c49_0] at h
      have hx : (x1).toInt = (0 : Int) := by rw [c49_0]; rfl
      refine aw_tableIn (off := 31) (tgt := 80) d_Model_span_49 (by rw [hx]; decide) (by rw [hx]; decide) (by rw [hx]; rfl) (by decide) ?_
      refine aw_aload_n d_Model_span_80 rfl rfl ?_
      obtain ⟨t81, e_t81, h⟩ := q_bind h
      refine aw_gtr d_Model_span_81 fl_Model_96 (Or.inr ⟨_, rfl⟩) e_t81 ?_
      refine aw_iconst (v := 0) d_Model_span_84 (by decide) ?_
      obtain ⟨t85, e_t85, h⟩ := q_bind h
      refine aw_ldi d_Model_span_85 e_t85 ?_
      cases h
      exact aw_ireturn d_Model_span_86 rfl (Nat.le_of_ble_eq_true rfl) (Nat.le_of_ble_eq_true rfl) ⟨rfl, rfl⟩
    rw [if_neg c49_0] at h
    by_cases c49_1 : x1 = (1 : Int32)
    · rw [if_pos c49_1] at h
      have hx : (x1).toInt = (1 : Int) := by rw [c49_1]; rfl
      refine aw_tableIn (off := 38) (tgt := 87) d_Model_span_49 (by rw [hx]; decide) (by rw [hx]; decide) (by rw [hx]; rfl) (by decide) ?_
      refine aw_aload_n d_Model_span_87 rfl rfl ?_
      obtain ⟨t88, e_t88, h⟩ := q_bind h
      refine aw_gtr d_Model_span_88 fl_Model_99 (Or.inr ⟨_, rfl⟩) e_t88 ?_
      refine aw_aload_n d_Model_span_91 rfl rfl ?_
      obtain ⟨t92, e_t92, h⟩ := q_bind h
      refine aw_gti d_Model_span_92 fl_Model_200 (Or.inl rfl) e_t92 ?_
      refine aw_iconst (v := 1) d_Model_span_95 (by decide) ?_
      refine aw_isub d_Model_span_96 ?_
      obtain ⟨t97, e_t97, h⟩ := q_bind h
      refine aw_ldi d_Model_span_97 e_t97 ?_
      cases h
      exact aw_ireturn d_Model_span_98 rfl (Nat.le_of_ble_eq_true rfl) (Nat.le_of_ble_eq_true rfl) ⟨rfl, rfl⟩
    rw [if_neg c49_1] at h
    by_cases c49_2 : x1 = (2 : Int32)
    · rw [if_pos c49_2] at h
      have hx : (x1).toInt = (2 : Int) := by rw [c49_2]; rfl
      refine aw_tableIn (off := 50) (tgt := 99) d_Model_span_49 (by rw [hx]; decide) (by rw [hx]; decide) (by rw [hx]; rfl) (by decide) ?_
      refine aw_aload_n d_Model_span_99 rfl rfl ?_
      obtain ⟨t100, e_t100, h⟩ := q_bind h
      refine aw_gti d_Model_span_100 fl_Model_200 (Or.inl rfl) e_t100 ?_
      cases h
      exact aw_ireturn d_Model_span_103 rfl (Nat.le_of_ble_eq_true rfl) (Nat.le_of_ble_eq_true rfl) ⟨rfl, rfl⟩
    rw [if_neg c49_2] at h
    by_cases c49_3 : x1 = (3 : Int32)
    · rw [if_pos c49_3] at h
      have hx : (x1).toInt = (3 : Int) := by rw [c49_3]; rfl
      refine aw_tableIn (off := 55) (tgt := 104) d_Model_span_49 (by rw [hx]; decide) (by rw [hx]; decide) (by rw [hx]; rfl) (by decide) ?_
      refine aw_aload_n d_Model_span_104 rfl rfl ?_
      obtain ⟨o105, e_o105, h⟩ := q_bind h
      obtain ⟨t105, e_t105, h⟩ := q_bind h
      refine aw_cV (v := (some (.int t105))) (As := []) (rest := []) (st' := [.int t105]) d_Model_span_105 kV_Model_219 (q_ob_spec e_o105).1 (q_ob_spec e_o105).2 ⟨Nat.le_of_ble_eq_true rfl, Nat.le_of_ble_eq_true rfl, Nat.le_of_ble_eq_true rfl, Nat.le_of_ble_eq_true rfl⟩ rfl rfl (Nat.le_of_ble_eq_true rfl) rfl (mt_Model_flying e_t105) ?_
      cases h
      exact aw_ireturn d_Model_span_108 rfl (Nat.le_of_ble_eq_true rfl) (Nat.le_of_ble_eq_true rfl) ⟨rfl, rfl⟩
    rw [if_neg c49_3] at h
    refine aw_tableOut (tgt := 109) d_Model_span_49 (by have z0 := lv_neT c49_0 (a := 0) rfl; have z1 := lv_neT c49_1 (a := 1) rfl; have z2 := lv_neT c49_2 (a := 2) rfl; have z3 := lv_neT c49_3 (a := 3) rfl; omega) (by decide) ?_
    refine aw_aload_n d_Model_span_109 rfl rfl ?_
    obtain ⟨t110, e_t110, h⟩ := q_bind h
    refine aw_gtr d_Model_span_110 fl_Model_99 (Or.inr ⟨_, rfl⟩) e_t110 ?_
    refine aw_iconst (v := 0) d_Model_span_113 (by decide) ?_
    obtain ⟨t114, e_t114, h⟩ := q_bind h
    refine aw_ldi d_Model_span_114 e_t114 ?_
    refine aw_aload_n d_Model_span_115 rfl rfl ?_
    obtain ⟨t116, e_t116, h⟩ := q_bind h
    refine aw_gtr d_Model_span_116 fl_Model_96 (Or.inr ⟨_, rfl⟩) e_t116 ?_
    refine aw_iconst (v := 0) d_Model_span_119 (by decide) ?_
    obtain ⟨t120, e_t120, h⟩ := q_bind h
    refine aw_ldi d_Model_span_120 e_t120 ?_
    refine aw_isub d_Model_span_121 ?_
    refine aw_istore_n (ls' := [(2, .int _), (0, .ref _), (1, .int _)]) d_Model_span_122 rfl (Nat.le_of_ble_eq_true rfl) rfl ?_
    refine aw_iconst (v := 1) d_Model_span_123 (by decide) ?_
    refine aw_istore_n (ls' := [(3, .int _), (2, .int _), (0, .ref _), (1, .int _)]) d_Model_span_124 rfl (Nat.le_of_ble_eq_true rfl) rfl ?_
    exact aw_pick [2, 1, 0] rfl (ih_2 _ _ _ _ _ _ _ h)
  · rw [if_neg hc] at h
    refine aw_iconst (v := 0) d_Model_span_42 (by decide) ?_
    cases h
    exact aw_ireturn d_Model_span_43 rfl (Nat.le_of_ble_eq_true rfl) (Nat.le_of_ble_eq_true rfl) ⟨rfl, rfl⟩
set_option maxHeartbeats 4000000 in
theorem s_Model_span_2 {rc : Nat → Nat → Int32 → Int32 → Int32 → Int32 → Nat → am_M → Option (Int32 × am_M)} {res : Int32} {M' : am_M} (ih_0 : ∀ (r0 : Nat) (x1 : Int32) (x2 : Int32) (x3 : Int32) (s0 : Int32) (sr1 : Nat) (M : am_M), rc 0 r0 x1 x2 x3 s0 sr1 M = some (res, M') → AW u_Model_span R_Model_span 0 0 15 [(0, .ref r0), (1, .int x1)] [.int s0, .ref sr1] M (fun r M2 => r = .inl (some (.int res)) ∧ M2 = M')) (ih_1 : ∀ (r0 : Nat) (x1 : Int32) (x2 : Int32) (x3 : Int32) (s0 : Int32) (sr1 : Nat) (M : am_M), rc 1 r0 x1 x2 x3 s0 sr1 M = some (res, M') → AW u_Model_span R_Model_span 0 0 35 [(0, .ref r0), (1, .int x1)] [.int s0, .ref sr1] M (fun r M2 => r = .inl (some (.int res)) ∧ M2 = M')) (ih_2 : ∀ (r0 : Nat) (x1 : Int32) (x2 : Int32) (x3 : Int32) (s0 : Int32) (sr1 : Nat) (M : am_M), rc 2 r0 x1 x2 x3 s0 sr1 M = some (res, M') → AW u_Model_span R_Model_span 0 0 125 [(0, .ref r0), (2, .int x2), (3, .int x3)] [] M (fun r M2 => r = .inl (some (.int res)) ∧ M2 = M')) (ih_3 : ∀ (r0 : Nat) (x1 : Int32) (x2 : Int32) (x3 : Int32) (s0 : Int32) (sr1 : Nat) (M : am_M), rc 3 r0 x1 x2 x3 s0 sr1 M = some (res, M') → AW u_Model_span R_Model_span 0 0 167 [(0, .ref r0), (3, .int x3)] [.int s0] M (fun r M2 => r = .inl (some (.int res)) ∧ M2 = M')) : ∀ (r0 : Nat) (x1 : Int32) (x2 : Int32) (x3 : Int32) (s0 : Int32) (sr1 : Nat) (M : am_M), a_Model_span_2 rc r0 x1 x2 x3 s0 sr1 M = some (res, M') → AW u_Model_span R_Model_span 0 0 125 [(0, .ref r0), (2, .int x2), (3, .int x3)] [] M (fun r M2 => r = .inl (some (.int res)) ∧ M2 = M') := by
  intro r0 x1 x2 x3 s0 sr1 M h
  unfold a_Model_span_2 at h
  refine aw_iload_n d_Model_span_125 rfl rfl ?_
  refine aw_aload_n d_Model_span_126 rfl rfl ?_
  obtain ⟨t127, e_t127, h⟩ := q_bind h
  refine aw_gti d_Model_span_127 fl_Model_200 (Or.inl rfl) e_t127 ?_
  refine aw_icmp_ge (tgt := 174) d_Model_span_130 (by decide) (fun hc => ?_) (fun hc => ?_)
  · rw [if_pos hc] at h
    refine aw_iload_n d_Model_span_174 rfl rfl ?_
    cases h
    exact aw_ireturn d_Model_span_175 rfl (Nat.le_of_ble_eq_true rfl) (Nat.le_of_ble_eq_true rfl) ⟨rfl, rfl⟩
  · rw [if_neg hc] at h
    refine aw_aload_n d_Model_span_133 rfl rfl ?_
    obtain ⟨t134, e_t134, h⟩ := q_bind h
    refine aw_gtr d_Model_span_134 fl_Model_99 (Or.inr ⟨_, rfl⟩) e_t134 ?_
    refine aw_iload_n d_Model_span_137 rfl rfl ?_
    obtain ⟨t138, e_t138, h⟩ := q_bind h
    refine aw_ldi d_Model_span_138 e_t138 ?_
    refine aw_aload_n d_Model_span_139 rfl rfl ?_
    obtain ⟨t140, e_t140, h⟩ := q_bind h
    refine aw_gtr d_Model_span_140 fl_Model_96 (Or.inr ⟨_, rfl⟩) e_t140 ?_
    refine aw_iload_n d_Model_span_143 rfl rfl ?_
    obtain ⟨t144, e_t144, h⟩ := q_bind h
    refine aw_ldi d_Model_span_144 e_t144 ?_
    refine aw_isub d_Model_span_145 ?_
    refine aw_iload_n d_Model_span_146 rfl rfl ?_
    refine aw_icmp_le (tgt := 166) d_Model_span_147 (by decide) (fun hc => ?_) (fun hc => ?_)
    · rw [if_pos hc] at h
      refine aw_iload_n d_Model_span_166 rfl rfl ?_
      exact aw_pick [0, 2] rfl (ih_3 _ _ _ _ _ _ _ h)
    · rw [if_neg hc] at h
      refine aw_aload_n d_Model_span_150 rfl rfl ?_
      obtain ⟨t151, e_t151, h⟩ := q_bind h
      refine aw_gtr d_Model_span_151 fl_Model_99 (Or.inr ⟨_, rfl⟩) e_t151 ?_
      refine aw_iload_n d_Model_span_154 rfl rfl ?_
      obtain ⟨t155, e_t155, h⟩ := q_bind h
      refine aw_ldi d_Model_span_155 e_t155 ?_
      refine aw_aload_n d_Model_span_156 rfl rfl ?_
      obtain ⟨t157, e_t157, h⟩ := q_bind h
      refine aw_gtr d_Model_span_157 fl_Model_96 (Or.inr ⟨_, rfl⟩) e_t157 ?_
      refine aw_iload_n d_Model_span_160 rfl rfl ?_
      obtain ⟨t161, e_t161, h⟩ := q_bind h
      refine aw_ldi d_Model_span_161 e_t161 ?_
      refine aw_isub d_Model_span_162 ?_
      refine aw_goto (tgt := 167) d_Model_span_163 (by decide) ?_
      exact aw_pick [0, 2] rfl (ih_3 _ _ _ _ _ _ _ h)
set_option maxHeartbeats 4000000 in
theorem s_Model_span_3 {rc : Nat → Nat → Int32 → Int32 → Int32 → Int32 → Nat → am_M → Option (Int32 × am_M)} {res : Int32} {M' : am_M} (ih_0 : ∀ (r0 : Nat) (x1 : Int32) (x2 : Int32) (x3 : Int32) (s0 : Int32) (sr1 : Nat) (M : am_M), rc 0 r0 x1 x2 x3 s0 sr1 M = some (res, M') → AW u_Model_span R_Model_span 0 0 15 [(0, .ref r0), (1, .int x1)] [.int s0, .ref sr1] M (fun r M2 => r = .inl (some (.int res)) ∧ M2 = M')) (ih_1 : ∀ (r0 : Nat) (x1 : Int32) (x2 : Int32) (x3 : Int32) (s0 : Int32) (sr1 : Nat) (M : am_M), rc 1 r0 x1 x2 x3 s0 sr1 M = some (res, M') → AW u_Model_span R_Model_span 0 0 35 [(0, .ref r0), (1, .int x1)] [.int s0, .ref sr1] M (fun r M2 => r = .inl (some (.int res)) ∧ M2 = M')) (ih_2 : ∀ (r0 : Nat) (x1 : Int32) (x2 : Int32) (x3 : Int32) (s0 : Int32) (sr1 : Nat) (M : am_M), rc 2 r0 x1 x2 x3 s0 sr1 M = some (res, M') → AW u_Model_span R_Model_span 0 0 125 [(0, .ref r0), (2, .int x2), (3, .int x3)] [] M (fun r M2 => r = .inl (some (.int res)) ∧ M2 = M')) (ih_3 : ∀ (r0 : Nat) (x1 : Int32) (x2 : Int32) (x3 : Int32) (s0 : Int32) (sr1 : Nat) (M : am_M), rc 3 r0 x1 x2 x3 s0 sr1 M = some (res, M') → AW u_Model_span R_Model_span 0 0 167 [(0, .ref r0), (3, .int x3)] [.int s0] M (fun r M2 => r = .inl (some (.int res)) ∧ M2 = M')) : ∀ (r0 : Nat) (x1 : Int32) (x2 : Int32) (x3 : Int32) (s0 : Int32) (sr1 : Nat) (M : am_M), a_Model_span_3 rc r0 x1 x2 x3 s0 sr1 M = some (res, M') → AW u_Model_span R_Model_span 0 0 167 [(0, .ref r0), (3, .int x3)] [.int s0] M (fun r M2 => r = .inl (some (.int res)) ∧ M2 = M') := by
  intro r0 x1 x2 x3 s0 sr1 M h
  unfold a_Model_span_3 at h
  refine aw_istore_n (ls' := [(2, .int _), (0, .ref _), (3, .int _)]) d_Model_span_167 rfl (Nat.le_of_ble_eq_true rfl) rfl ?_
  refine aw_iinc (v := (x3 + (1 : Int32))) (ls' := [(3, .int _), (2, .int _), (0, .ref _)]) d_Model_span_168 rfl rfl (Nat.le_of_ble_eq_true rfl) rfl ?_
  refine aw_goto (tgt := 125) d_Model_span_171 (by decide) ?_
  exact aw_pick [2, 1, 0] rfl (ih_2 _ _ _ _ _ _ _ h)
theorem l_Model_span {res : Int32} {M' : am_M} : ∀ F : Nat, (∀ (r0 : Nat) (x1 : Int32) (x2 : Int32) (x3 : Int32) (s0 : Int32) (sr1 : Nat) (M : am_M), g_Model_span F 0 r0 x1 x2 x3 s0 sr1 M = some (res, M') → AW u_Model_span R_Model_span 0 0 15 [(0, .ref r0), (1, .int x1)] [.int s0, .ref sr1] M (fun r M2 => r = .inl (some (.int res)) ∧ M2 = M')) ∧ (∀ (r0 : Nat) (x1 : Int32) (x2 : Int32) (x3 : Int32) (s0 : Int32) (sr1 : Nat) (M : am_M), g_Model_span F 1 r0 x1 x2 x3 s0 sr1 M = some (res, M') → AW u_Model_span R_Model_span 0 0 35 [(0, .ref r0), (1, .int x1)] [.int s0, .ref sr1] M (fun r M2 => r = .inl (some (.int res)) ∧ M2 = M')) ∧ (∀ (r0 : Nat) (x1 : Int32) (x2 : Int32) (x3 : Int32) (s0 : Int32) (sr1 : Nat) (M : am_M), g_Model_span F 2 r0 x1 x2 x3 s0 sr1 M = some (res, M') → AW u_Model_span R_Model_span 0 0 125 [(0, .ref r0), (2, .int x2), (3, .int x3)] [] M (fun r M2 => r = .inl (some (.int res)) ∧ M2 = M')) ∧ (∀ (r0 : Nat) (x1 : Int32) (x2 : Int32) (x3 : Int32) (s0 : Int32) (sr1 : Nat) (M : am_M), g_Model_span F 3 r0 x1 x2 x3 s0 sr1 M = some (res, M') → AW u_Model_span R_Model_span 0 0 167 [(0, .ref r0), (3, .int x3)] [.int s0] M (fun r M2 => r = .inl (some (.int res)) ∧ M2 = M')) := by
  intro F
  induction F with
  | zero => exact ⟨fun _ _ _ _ _ _ _  h => (by cases h), fun _ _ _ _ _ _ _  h => (by cases h), fun _ _ _ _ _ _ _  h => (by cases h), fun _ _ _ _ _ _ _  h => (by cases h)⟩
  | succ F ih =>
    obtain ⟨ih0, ih1, ih2, ih3⟩ := ih
    exact ⟨s_Model_span_0 ih0 ih1 ih2 ih3, s_Model_span_1 ih0 ih1 ih2 ih3, s_Model_span_2 ih0 ih1 ih2 ih3, s_Model_span_3 ih0 ih1 ih2 ih3⟩
set_option maxHeartbeats 4000000 in
theorem mt_Model_span {M : am_M} {a0 : Nat} {a1 : Int32} {res : Int32} {M' : am_M} (h : f_Model_span M a0 a1 = some (res, M')) : AMet y_Model_span u_Model_span R_Model_span [.ref a0, .int a1] M (fun r M2 => r = .inl (some (.int res)) ∧ M2 = M') := by
  refine am_met (by decide +kernel) w_Model_span rfl rfl (Nat.le_of_ble_eq_true rfl) ?_
  show AW u_Model_span R_Model_span 0 0 0 [(0, .ref a0), (1, .int a1)] [] M (fun r M2 => r = .inl (some (.int res)) ∧ M2 = M')
  have ih_0 := (l_Model_span (res := res) (M' := M') 1000000000).1
  have ih_1 := (l_Model_span (res := res) (M' := M') 1000000000).2.1
  have ih_2 := (l_Model_span (res := res) (M' := M') 1000000000).2.2.1
  have ih_3 := (l_Model_span (res := res) (M' := M') 1000000000).2.2.2
  unfold f_Model_span at h
  unfold e_Model_span at h
  generalize g_Model_span 1000000000 = rc at h ih_0 ih_1 ih_2 ih_3
  refine aw_aload_n d_Model_span_0 rfl rfl ?_
  refine aw_iload_n d_Model_span_1 rfl rfl ?_
  refine aw_iconst (v := 0) d_Model_span_2 (by decide) ?_
  refine aw_iconst (v := 4) d_Model_span_3 (by decide) ?_
  obtain ⟨t4, e_t4, h⟩ := q_bind h
  refine aw_cS (v := (some (.int t4))) (As := [.int a1, .int (0 : Int32), .int (4 : Int32)]) (rest := [.ref a0]) (st' := [.int t4, .ref a0]) d_Model_span_4 kS_Model_180 ⟨Nat.le_of_ble_eq_true rfl, Nat.le_of_ble_eq_true rfl, Nat.le_of_ble_eq_true rfl, Nat.le_of_ble_eq_true rfl⟩ rfl rfl (Nat.le_of_ble_eq_true rfl) rfl (mt_Model_within e_t4) ?_
  refine aw_if_ne (tgt := 14) d_Model_span_7 (by decide) (fun hc => ?_) (fun hc => ?_)
  · rw [if_neg hc] at h
    refine aw_iconst (v := 0) d_Model_span_14 (by decide) ?_
    exact aw_pick [0, 1] rfl (ih_0 _ _ _ _ _ _ _ h)
  · rw [if_pos hc] at h
    refine aw_iconst (v := 1) d_Model_span_10 (by decide) ?_
    refine aw_goto (tgt := 15) d_Model_span_11 (by decide) ?_
    exact aw_pick [0, 1] rfl (ih_0 _ _ _ _ _ _ _ h)
def y_Model_many : MethodName := ⟨"CrewOfficeModel", "many", "(I)I"⟩
def u_Model_many : am_U := ("CrewOfficeModel", "many", prog_12_method_32_code, 3, (some .int), [])
def R_Model_many : Room := { frames := 0, cells := 0, slots := 0, locals := 0 }
theorem d_Model_many_0 : decode u_Model_many.2.2.1 0 = .ok (.iconst 0, 1) := by decide +kernel
theorem d_Model_many_1 : decode u_Model_many.2.2.1 1 = .ok (.istore_n 1, 1) := by decide +kernel
theorem d_Model_many_2 : decode u_Model_many.2.2.1 2 = .ok (.iconst 0, 1) := by decide +kernel
theorem d_Model_many_3 : decode u_Model_many.2.2.1 3 = .ok (.istore_n 2, 1) := by decide +kernel
theorem d_Model_many_4 : decode u_Model_many.2.2.1 4 = .ok (.iload_n 2, 1) := by decide +kernel
theorem d_Model_many_5 : decode u_Model_many.2.2.1 5 = .ok (.bipush 12, 2) := by decide +kernel
theorem d_Model_many_7 : decode u_Model_many.2.2.1 7 = .ok (.if_icmp .ge 17, 3) := by decide +kernel
theorem d_Model_many_10 : decode u_Model_many.2.2.1 10 = .ok (.iload_n 1, 1) := by decide +kernel
theorem d_Model_many_11 : decode u_Model_many.2.2.1 11 = .ok (.iload_n 0, 1) := by decide +kernel
theorem d_Model_many_12 : decode u_Model_many.2.2.1 12 = .ok (.iload_n 2, 1) := by decide +kernel
theorem d_Model_many_13 : decode u_Model_many.2.2.1 13 = .ok (.ishr, 1) := by decide +kernel
theorem d_Model_many_14 : decode u_Model_many.2.2.1 14 = .ok (.iconst 1, 1) := by decide +kernel
theorem d_Model_many_15 : decode u_Model_many.2.2.1 15 = .ok (.iand, 1) := by decide +kernel
theorem d_Model_many_16 : decode u_Model_many.2.2.1 16 = .ok (.iadd, 1) := by decide +kernel
theorem d_Model_many_17 : decode u_Model_many.2.2.1 17 = .ok (.istore_n 1, 1) := by decide +kernel
theorem d_Model_many_18 : decode u_Model_many.2.2.1 18 = .ok (.iinc 2 1, 3) := by decide +kernel
theorem d_Model_many_21 : decode u_Model_many.2.2.1 21 = .ok (.goto (-17), 3) := by decide +kernel
theorem d_Model_many_24 : decode u_Model_many.2.2.1 24 = .ok (.iload_n 1, 1) := by decide +kernel
theorem d_Model_many_25 : decode u_Model_many.2.2.1 25 = .ok (.ireturn, 1) := by decide +kernel
theorem w_Model_many : am_code y_Model_many u_Model_many ∈ am_ws := am_mem (List.mem_of_getElem? (i := 1295) (by decide +kernel)) rfl
def a_Model_many_0 (rc : Nat → Int32 → Int32 → Int32 → am_M → Option (Int32)) (x0 : Int32) (x1 : Int32) (x2 : Int32) (M : am_M) : Option (Int32) := if (12 : Int32) ≤ x2 then (some x1) else (rc 0 x0 (x1 + ((x0 >>> (x2 &&& 31)) &&& (1 : Int32))) (x2 + (1 : Int32)) M)
def g_Model_many : Nat → Nat → Int32 → Int32 → Int32 → am_M → Option (Int32)
  | 0, _, _, _, _, _ => none
  | F + 1, 0, x0, x1, x2, M => a_Model_many_0 (g_Model_many F) x0 x1 x2 M
  | _ + 1, _ + 1, _, _, _, _ => none
def e_Model_many (rc : Nat → Int32 → Int32 → Int32 → am_M → Option (Int32)) (M : am_M) (a0 : Int32) : Option (Int32) := rc 0 a0 (0 : Int32) (0 : Int32) M
def f_Model_many (M : am_M) (a0 : Int32) : Option (Int32) := e_Model_many (g_Model_many 1000000000) M a0
set_option maxHeartbeats 4000000 in
theorem s_Model_many_0 {rc : Nat → Int32 → Int32 → Int32 → am_M → Option (Int32)} {res : Int32} (ih_0 : ∀ (x0 : Int32) (x1 : Int32) (x2 : Int32) (M : am_M), rc 0 x0 x1 x2 M = some res → AW u_Model_many R_Model_many 0 0 4 [(0, .int x0), (1, .int x1), (2, .int x2)] [] M (fun r M2 => r = .inl (some (.int res)) ∧ M2 = M)) : ∀ (x0 : Int32) (x1 : Int32) (x2 : Int32) (M : am_M), a_Model_many_0 rc x0 x1 x2 M = some res → AW u_Model_many R_Model_many 0 0 4 [(0, .int x0), (1, .int x1), (2, .int x2)] [] M (fun r M2 => r = .inl (some (.int res)) ∧ M2 = M) := by
  intro x0 x1 x2 M h
  unfold a_Model_many_0 at h
  refine aw_iload_n d_Model_many_4 rfl rfl ?_
  refine aw_bipush (v := 12) d_Model_many_5 (by decide) ?_
  refine aw_icmp_ge (tgt := 24) d_Model_many_7 (by decide) (fun hc => ?_) (fun hc => ?_)
  · rw [if_pos hc] at h
    refine aw_iload_n d_Model_many_24 rfl rfl ?_
    cases h
    exact aw_ireturn d_Model_many_25 rfl (Nat.le_of_ble_eq_true rfl) (Nat.le_of_ble_eq_true rfl) ⟨rfl, rfl⟩
  · rw [if_neg hc] at h
    refine aw_iload_n d_Model_many_10 rfl rfl ?_
    refine aw_iload_n d_Model_many_11 rfl rfl ?_
    refine aw_iload_n d_Model_many_12 rfl rfl ?_
    refine aw_ishr d_Model_many_13 ?_
    refine aw_iconst (v := 1) d_Model_many_14 (by decide) ?_
    refine aw_iand d_Model_many_15 ?_
    refine aw_iadd d_Model_many_16 ?_
    refine aw_istore_n (ls' := [(1, .int _), (0, .int _), (2, .int _)]) d_Model_many_17 rfl (Nat.le_of_ble_eq_true rfl) rfl ?_
    refine aw_iinc (v := (x2 + (1 : Int32))) (ls' := [(2, .int _), (1, .int _), (0, .int _)]) d_Model_many_18 rfl rfl (Nat.le_of_ble_eq_true rfl) rfl ?_
    refine aw_goto (tgt := 4) d_Model_many_21 (by decide) ?_
    exact aw_pick [2, 1, 0] rfl (ih_0 _ _ _ _ h)
theorem l_Model_many {res : Int32} : ∀ F : Nat, (∀ (x0 : Int32) (x1 : Int32) (x2 : Int32) (M : am_M), g_Model_many F 0 x0 x1 x2 M = some res → AW u_Model_many R_Model_many 0 0 4 [(0, .int x0), (1, .int x1), (2, .int x2)] [] M (fun r M2 => r = .inl (some (.int res)) ∧ M2 = M)) := by
  intro F
  induction F with
  | zero => exact fun _ _ _ _  h => (by cases h)
  | succ F ih =>
    have ih0 := ih
    exact s_Model_many_0 ih0
set_option maxHeartbeats 4000000 in
theorem mt_Model_many {M : am_M} {a0 : Int32} {res : Int32} (h : f_Model_many M a0 = some res) : AMet y_Model_many u_Model_many R_Model_many [.int a0] M (fun r M2 => r = .inl (some (.int res)) ∧ M2 = M) := by
  refine am_met (by decide +kernel) w_Model_many rfl rfl (Nat.le_of_ble_eq_true rfl) ?_
  show AW u_Model_many R_Model_many 0 0 0 [(0, .int a0)] [] M (fun r M2 => r = .inl (some (.int res)) ∧ M2 = M)
  have ih_0 := (l_Model_many (res := res) 1000000000)
  unfold f_Model_many at h
  unfold e_Model_many at h
  generalize g_Model_many 1000000000 = rc at h ih_0
  refine aw_iconst (v := 0) d_Model_many_0 (by decide) ?_
  refine aw_istore_n (ls' := [(1, .int _), (0, .int _)]) d_Model_many_1 rfl (Nat.le_of_ble_eq_true rfl) rfl ?_
  refine aw_iconst (v := 0) d_Model_many_2 (by decide) ?_
  refine aw_istore_n (ls' := [(2, .int _), (1, .int _), (0, .int _)]) d_Model_many_3 rfl (Nat.le_of_ble_eq_true rfl) rfl ?_
  exact aw_pick [2, 1, 0] rfl (ih_0 _ _ _ _ h)
def y_Model_lays : MethodName := ⟨"CrewOfficeModel", "lays", "(I)Z"⟩
def u_Model_lays : am_U := ("CrewOfficeModel", "lays", prog_12_method_33_code, 4, (some .boolean), [])
def R_Model_lays : Room := { frames := 0, cells := 0, slots := 0, locals := 0 }
theorem d_Model_lays_0 : decode u_Model_lays.2.2.1 0 = .ok (.aload_n 0, 1) := by decide +kernel
theorem d_Model_lays_1 : decode u_Model_lays.2.2.1 1 = .ok (.iconst 0, 1) := by decide +kernel
theorem d_Model_lays_2 : decode u_Model_lays.2.2.1 2 = .ok (.putfield 203, 3) := by decide +kernel
theorem d_Model_lays_5 : decode u_Model_lays.2.2.1 5 = .ok (.iconst 0, 1) := by decide +kernel
theorem d_Model_lays_6 : decode u_Model_lays.2.2.1 6 = .ok (.istore_n 2, 1) := by decide +kernel
theorem d_Model_lays_7 : decode u_Model_lays.2.2.1 7 = .ok (.iload_n 2, 1) := by decide +kernel
theorem d_Model_lays_8 : decode u_Model_lays.2.2.1 8 = .ok (.bipush 12, 2) := by decide +kernel
theorem d_Model_lays_10 : decode u_Model_lays.2.2.1 10 = .ok (.if_icmp .ge 127, 3) := by decide +kernel
theorem d_Model_lays_13 : decode u_Model_lays.2.2.1 13 = .ok (.iload_n 1, 1) := by decide +kernel
theorem d_Model_lays_14 : decode u_Model_lays.2.2.1 14 = .ok (.iload_n 2, 1) := by decide +kernel
theorem d_Model_lays_15 : decode u_Model_lays.2.2.1 15 = .ok (.ishr, 1) := by decide +kernel
theorem d_Model_lays_16 : decode u_Model_lays.2.2.1 16 = .ok (.iconst 1, 1) := by decide +kernel
theorem d_Model_lays_17 : decode u_Model_lays.2.2.1 17 = .ok (.iand, 1) := by decide +kernel
theorem d_Model_lays_18 : decode u_Model_lays.2.2.1 18 = .ok (.ifCond .ne 6, 3) := by decide +kernel
theorem d_Model_lays_21 : decode u_Model_lays.2.2.1 21 = .ok (.goto 110, 3) := by decide +kernel
theorem d_Model_lays_24 : decode u_Model_lays.2.2.1 24 = .ok (.aload_n 0, 1) := by decide +kernel
theorem d_Model_lays_25 : decode u_Model_lays.2.2.1 25 = .ok (.getfield 27, 3) := by decide +kernel
theorem d_Model_lays_28 : decode u_Model_lays.2.2.1 28 = .ok (.iload_n 2, 1) := by decide +kernel
theorem d_Model_lays_29 : decode u_Model_lays.2.2.1 29 = .ok (.baload, 1) := by decide +kernel
theorem d_Model_lays_30 : decode u_Model_lays.2.2.1 30 = .ok (.ifCond .ne 5, 3) := by decide +kernel
theorem d_Model_lays_33 : decode u_Model_lays.2.2.1 33 = .ok (.iconst 0, 1) := by decide +kernel
theorem d_Model_lays_34 : decode u_Model_lays.2.2.1 34 = .ok (.ireturn, 1) := by decide +kernel
theorem d_Model_lays_35 : decode u_Model_lays.2.2.1 35 = .ok (.aload_n 0, 1) := by decide +kernel
theorem d_Model_lays_36 : decode u_Model_lays.2.2.1 36 = .ok (.getfield 203, 3) := by decide +kernel
theorem d_Model_lays_39 : decode u_Model_lays.2.2.1 39 = .ok (.istore_n 3, 1) := by decide +kernel
theorem d_Model_lays_40 : decode u_Model_lays.2.2.1 40 = .ok (.iload_n 3, 1) := by decide +kernel
theorem d_Model_lays_41 : decode u_Model_lays.2.2.1 41 = .ok (.ifCond .le 45, 3) := by decide +kernel
theorem d_Model_lays_44 : decode u_Model_lays.2.2.1 44 = .ok (.aload_n 0, 1) := by decide +kernel
theorem d_Model_lays_45 : decode u_Model_lays.2.2.1 45 = .ok (.getfield 36, 3) := by decide +kernel
theorem d_Model_lays_48 : decode u_Model_lays.2.2.1 48 = .ok (.aload_n 0, 1) := by decide +kernel
theorem d_Model_lays_49 : decode u_Model_lays.2.2.1 49 = .ok (.getfield 87, 3) := by decide +kernel
theorem d_Model_lays_52 : decode u_Model_lays.2.2.1 52 = .ok (.iload_n 3, 1) := by decide +kernel
theorem d_Model_lays_53 : decode u_Model_lays.2.2.1 53 = .ok (.iconst 1, 1) := by decide +kernel
theorem d_Model_lays_54 : decode u_Model_lays.2.2.1 54 = .ok (.isub, 1) := by decide +kernel
theorem d_Model_lays_55 : decode u_Model_lays.2.2.1 55 = .ok (.iaload, 1) := by decide +kernel
theorem d_Model_lays_56 : decode u_Model_lays.2.2.1 56 = .ok (.iaload, 1) := by decide +kernel
theorem d_Model_lays_57 : decode u_Model_lays.2.2.1 57 = .ok (.aload_n 0, 1) := by decide +kernel
theorem d_Model_lays_58 : decode u_Model_lays.2.2.1 58 = .ok (.getfield 36, 3) := by decide +kernel
theorem d_Model_lays_61 : decode u_Model_lays.2.2.1 61 = .ok (.iload_n 2, 1) := by decide +kernel
theorem d_Model_lays_62 : decode u_Model_lays.2.2.1 62 = .ok (.iaload, 1) := by decide +kernel
theorem d_Model_lays_63 : decode u_Model_lays.2.2.1 63 = .ok (.if_icmp .le 23, 3) := by decide +kernel
theorem d_Model_lays_66 : decode u_Model_lays.2.2.1 66 = .ok (.aload_n 0, 1) := by decide +kernel
theorem d_Model_lays_67 : decode u_Model_lays.2.2.1 67 = .ok (.getfield 87, 3) := by decide +kernel
theorem d_Model_lays_70 : decode u_Model_lays.2.2.1 70 = .ok (.iload_n 3, 1) := by decide +kernel
theorem d_Model_lays_71 : decode u_Model_lays.2.2.1 71 = .ok (.aload_n 0, 1) := by decide +kernel
theorem d_Model_lays_72 : decode u_Model_lays.2.2.1 72 = .ok (.getfield 87, 3) := by decide +kernel
theorem d_Model_lays_75 : decode u_Model_lays.2.2.1 75 = .ok (.iload_n 3, 1) := by decide +kernel
theorem d_Model_lays_76 : decode u_Model_lays.2.2.1 76 = .ok (.iconst 1, 1) := by decide +kernel
theorem d_Model_lays_77 : decode u_Model_lays.2.2.1 77 = .ok (.isub, 1) := by decide +kernel
theorem d_Model_lays_78 : decode u_Model_lays.2.2.1 78 = .ok (.iaload, 1) := by decide +kernel
theorem d_Model_lays_79 : decode u_Model_lays.2.2.1 79 = .ok (.iastore, 1) := by decide +kernel
theorem d_Model_lays_80 : decode u_Model_lays.2.2.1 80 = .ok (.iinc 3 (-1), 3) := by decide +kernel
theorem d_Model_lays_83 : decode u_Model_lays.2.2.1 83 = .ok (.goto (-43), 3) := by decide +kernel
theorem d_Model_lays_86 : decode u_Model_lays.2.2.1 86 = .ok (.iload_n 3, 1) := by decide +kernel
theorem d_Model_lays_87 : decode u_Model_lays.2.2.1 87 = .ok (.ifCond .le 27, 3) := by decide +kernel
theorem d_Model_lays_90 : decode u_Model_lays.2.2.1 90 = .ok (.aload_n 0, 1) := by decide +kernel
theorem d_Model_lays_91 : decode u_Model_lays.2.2.1 91 = .ok (.getfield 36, 3) := by decide +kernel
theorem d_Model_lays_94 : decode u_Model_lays.2.2.1 94 = .ok (.aload_n 0, 1) := by decide +kernel
theorem d_Model_lays_95 : decode u_Model_lays.2.2.1 95 = .ok (.getfield 87, 3) := by decide +kernel
theorem d_Model_lays_98 : decode u_Model_lays.2.2.1 98 = .ok (.iload_n 3, 1) := by decide +kernel
theorem d_Model_lays_99 : decode u_Model_lays.2.2.1 99 = .ok (.iconst 1, 1) := by decide +kernel
theorem d_Model_lays_100 : decode u_Model_lays.2.2.1 100 = .ok (.isub, 1) := by decide +kernel
theorem d_Model_lays_101 : decode u_Model_lays.2.2.1 101 = .ok (.iaload, 1) := by decide +kernel
theorem d_Model_lays_102 : decode u_Model_lays.2.2.1 102 = .ok (.iaload, 1) := by decide +kernel
theorem d_Model_lays_103 : decode u_Model_lays.2.2.1 103 = .ok (.aload_n 0, 1) := by decide +kernel
theorem d_Model_lays_104 : decode u_Model_lays.2.2.1 104 = .ok (.getfield 36, 3) := by decide +kernel
theorem d_Model_lays_107 : decode u_Model_lays.2.2.1 107 = .ok (.iload_n 2, 1) := by decide +kernel
theorem d_Model_lays_108 : decode u_Model_lays.2.2.1 108 = .ok (.iaload, 1) := by decide +kernel
theorem d_Model_lays_109 : decode u_Model_lays.2.2.1 109 = .ok (.if_icmp .ne 5, 3) := by decide +kernel
theorem d_Model_lays_112 : decode u_Model_lays.2.2.1 112 = .ok (.iconst 0, 1) := by decide +kernel
theorem d_Model_lays_113 : decode u_Model_lays.2.2.1 113 = .ok (.ireturn, 1) := by decide +kernel
theorem d_Model_lays_114 : decode u_Model_lays.2.2.1 114 = .ok (.aload_n 0, 1) := by decide +kernel
theorem d_Model_lays_115 : decode u_Model_lays.2.2.1 115 = .ok (.getfield 87, 3) := by decide +kernel
theorem d_Model_lays_118 : decode u_Model_lays.2.2.1 118 = .ok (.iload_n 3, 1) := by decide +kernel
theorem d_Model_lays_119 : decode u_Model_lays.2.2.1 119 = .ok (.iload_n 2, 1) := by decide +kernel
theorem d_Model_lays_120 : decode u_Model_lays.2.2.1 120 = .ok (.iastore, 1) := by decide +kernel
theorem d_Model_lays_121 : decode u_Model_lays.2.2.1 121 = .ok (.aload_n 0, 1) := by decide +kernel
theorem d_Model_lays_122 : decode u_Model_lays.2.2.1 122 = .ok (.dup, 1) := by decide +kernel
theorem d_Model_lays_123 : decode u_Model_lays.2.2.1 123 = .ok (.getfield 203, 3) := by decide +kernel
theorem d_Model_lays_126 : decode u_Model_lays.2.2.1 126 = .ok (.iconst 1, 1) := by decide +kernel
theorem d_Model_lays_127 : decode u_Model_lays.2.2.1 127 = .ok (.iadd, 1) := by decide +kernel
theorem d_Model_lays_128 : decode u_Model_lays.2.2.1 128 = .ok (.putfield 203, 3) := by decide +kernel
theorem d_Model_lays_131 : decode u_Model_lays.2.2.1 131 = .ok (.iinc 2 1, 3) := by decide +kernel
theorem d_Model_lays_134 : decode u_Model_lays.2.2.1 134 = .ok (.goto (-127), 3) := by decide +kernel
theorem d_Model_lays_137 : decode u_Model_lays.2.2.1 137 = .ok (.iconst 1, 1) := by decide +kernel
theorem d_Model_lays_138 : decode u_Model_lays.2.2.1 138 = .ok (.ireturn, 1) := by decide +kernel
theorem w_Model_lays : am_code y_Model_lays u_Model_lays ∈ am_ws := am_mem (List.mem_of_getElem? (i := 1299) (by decide +kernel)) rfl
def a_Model_lays_0 (rc : Nat → Nat → Int32 → Int32 → Int32 → am_M → Option (Int32 × am_M)) (r0 : Nat) (x1 : Int32) (x2 : Int32) (x3 : Int32) (M : am_M) : Option (Int32 × am_M) := if (12 : Int32) ≤ x2 then (some ((1 : Int32), M)) else (if ((x1 >>> (x2 &&& 31)) &&& (1 : Int32)) = 0 then (rc 4 r0 x1 x2 0 M) else ((q_gtr M r0 10 6).bind (fun t25 => (q_ldz M t25 x2).bind (fun t29 => if t29 = 0 then (some ((0 : Int32), M)) else ((q_gti M r0 10 28).bind (fun t36 => rc 1 r0 x1 x2 t36 M))))))
def a_Model_lays_1 (rc : Nat → Nat → Int32 → Int32 → Int32 → am_M → Option (Int32 × am_M)) (r0 : Nat) (x1 : Int32) (x2 : Int32) (x3 : Int32) (M : am_M) : Option (Int32 × am_M) := if x3 ≤ 0 then (rc 2 r0 x1 x2 x3 M) else ((q_gtr M r0 10 9).bind (fun t45 => (q_gtr M r0 10 27).bind (fun t49 => (q_ldi M t49 (x3 - (1 : Int32))).bind (fun t55 => (q_ldi M t45 t55).bind (fun t56 => (q_gtr M r0 10 9).bind (fun t58 => (q_ldi M t58 x2).bind (fun t62 => if t56 ≤ t62 then (rc 2 r0 x1 x2 x3 M) else ((q_gtr M r0 10 27).bind (fun t67 => (q_gtr M r0 10 27).bind (fun t72 => (q_ldi M t72 (x3 - (1 : Int32))).bind (fun t78 => (q_sti M t67 x3 t78).bind (fun M79 => rc 1 r0 x1 x2 (x3 + (-1 : Int32)) M79))))))))))))
def a_Model_lays_2 (rc : Nat → Nat → Int32 → Int32 → Int32 → am_M → Option (Int32 × am_M)) (r0 : Nat) (x1 : Int32) (x2 : Int32) (x3 : Int32) (M : am_M) : Option (Int32 × am_M) := if x3 ≤ 0 then (rc 3 r0 x1 x2 x3 M) else ((q_gtr M r0 10 9).bind (fun t91 => (q_gtr M r0 10 27).bind (fun t95 => (q_ldi M t95 (x3 - (1 : Int32))).bind (fun t101 => (q_ldi M t91 t101).bind (fun t102 => (q_gtr M r0 10 9).bind (fun t104 => (q_ldi M t104 x2).bind (fun t108 => if t102 = t108 then (some ((0 : Int32), M)) else (rc 3 r0 x1 x2 x3 M))))))))
def a_Model_lays_3 (rc : Nat → Nat → Int32 → Int32 → Int32 → am_M → Option (Int32 × am_M)) (r0 : Nat) (x1 : Int32) (x2 : Int32) (x3 : Int32) (M : am_M) : Option (Int32 × am_M) := (q_gtr M r0 10 27).bind (fun t115 => (q_sti M t115 x3 x2).bind (fun M120 => (q_gti M120 r0 10 28).bind (fun t123 => (q_pti M120 r0 10 28 (t123 + (1 : Int32))).bind (fun M128 => rc 4 r0 x1 x2 0 M128))))
def a_Model_lays_4 (rc : Nat → Nat → Int32 → Int32 → Int32 → am_M → Option (Int32 × am_M)) (r0 : Nat) (x1 : Int32) (x2 : Int32) (x3 : Int32) (M : am_M) : Option (Int32 × am_M) := rc 0 r0 x1 (x2 + (1 : Int32)) 0 M
def g_Model_lays : Nat → Nat → Nat → Int32 → Int32 → Int32 → am_M → Option (Int32 × am_M)
  | 0, _, _, _, _, _, _ => none
  | F + 1, 0, r0, x1, x2, x3, M => a_Model_lays_0 (g_Model_lays F) r0 x1 x2 x3 M
  | F + 1, 1, r0, x1, x2, x3, M => a_Model_lays_1 (g_Model_lays F) r0 x1 x2 x3 M
  | F + 1, 2, r0, x1, x2, x3, M => a_Model_lays_2 (g_Model_lays F) r0 x1 x2 x3 M
  | F + 1, 3, r0, x1, x2, x3, M => a_Model_lays_3 (g_Model_lays F) r0 x1 x2 x3 M
  | F + 1, 4, r0, x1, x2, x3, M => a_Model_lays_4 (g_Model_lays F) r0 x1 x2 x3 M
  | _ + 1, _ + 5, _, _, _, _, _ => none
def e_Model_lays (rc : Nat → Nat → Int32 → Int32 → Int32 → am_M → Option (Int32 × am_M)) (M : am_M) (a0 : Nat) (a1 : Int32) : Option (Int32 × am_M) := (q_pti M a0 10 28 (0 : Int32)).bind (fun M2 => rc 0 a0 a1 (0 : Int32) 0 M2)
def f_Model_lays (M : am_M) (a0 : Nat) (a1 : Int32) : Option (Int32 × am_M) := e_Model_lays (g_Model_lays 1000000000) M a0 a1
set_option maxHeartbeats 4000000 in
theorem s_Model_lays_0 {rc : Nat → Nat → Int32 → Int32 → Int32 → am_M → Option (Int32 × am_M)} {res : Int32} {M' : am_M} (ih_0 : ∀ (r0 : Nat) (x1 : Int32) (x2 : Int32) (x3 : Int32) (M : am_M), rc 0 r0 x1 x2 x3 M = some (res, M') → AW u_Model_lays R_Model_lays 0 0 7 [(0, .ref r0), (1, .int x1), (2, .int x2)] [] M (fun r M2 => r = .inl (some (.int res)) ∧ M2 = M')) (ih_1 : ∀ (r0 : Nat) (x1 : Int32) (x2 : Int32) (x3 : Int32) (M : am_M), rc 1 r0 x1 x2 x3 M = some (res, M') → AW u_Model_lays R_Model_lays 0 0 40 [(0, .ref r0), (1, .int x1), (2, .int x2), (3, .int x3)] [] M (fun r M2 => r = .inl (some (.int res)) ∧ M2 = M')) (ih_2 : ∀ (r0 : Nat) (x1 : Int32) (x2 : Int32) (x3 : Int32) (M : am_M), rc 2 r0 x1 x2 x3 M = some (res, M') → AW u_Model_lays R_Model_lays 0 0 86 [(0, .ref r0), (1, .int x1), (2, .int x2), (3, .int x3)] [] M (fun r M2 => r = .inl (some (.int res)) ∧ M2 = M')) (ih_3 : ∀ (r0 : Nat) (x1 : Int32) (x2 : Int32) (x3 : Int32) (M : am_M), rc 3 r0 x1 x2 x3 M = some (res, M') → AW u_Model_lays R_Model_lays 0 0 114 [(0, .ref r0), (1, .int x1), (2, .int x2), (3, .int x3)] [] M (fun r M2 => r = .inl (some (.int res)) ∧ M2 = M')) (ih_4 : ∀ (r0 : Nat) (x1 : Int32) (x2 : Int32) (x3 : Int32) (M : am_M), rc 4 r0 x1 x2 x3 M = some (res, M') → AW u_Model_lays R_Model_lays 0 0 131 [(0, .ref r0), (1, .int x1), (2, .int x2)] [] M (fun r M2 => r = .inl (some (.int res)) ∧ M2 = M')) : ∀ (r0 : Nat) (x1 : Int32) (x2 : Int32) (x3 : Int32) (M : am_M), a_Model_lays_0 rc r0 x1 x2 x3 M = some (res, M') → AW u_Model_lays R_Model_lays 0 0 7 [(0, .ref r0), (1, .int x1), (2, .int x2)] [] M (fun r M2 => r = .inl (some (.int res)) ∧ M2 = M') := by
  intro r0 x1 x2 x3 M h
  unfold a_Model_lays_0 at h
  refine aw_iload_n d_Model_lays_7 rfl rfl ?_
  refine aw_bipush (v := 12) d_Model_lays_8 (by decide) ?_
  refine aw_icmp_ge (tgt := 137) d_Model_lays_10 (by decide) (fun hc => ?_) (fun hc => ?_)
  · rw [if_pos hc] at h
    refine aw_iconst (v := 1) d_Model_lays_137 (by decide) ?_
    cases h
    exact aw_zreturn d_Model_lays_138 rfl (by decide) (Nat.le_of_ble_eq_true rfl) (Nat.le_of_ble_eq_true rfl) ⟨rfl, rfl⟩
  · rw [if_neg hc] at h
    refine aw_iload_n d_Model_lays_13 rfl rfl ?_
    refine aw_iload_n d_Model_lays_14 rfl rfl ?_
    refine aw_ishr d_Model_lays_15 ?_
    refine aw_iconst (v := 1) d_Model_lays_16 (by decide) ?_
    refine aw_iand d_Model_lays_17 ?_
    refine aw_if_ne (tgt := 24) d_Model_lays_18 (by decide) (fun hc => ?_) (fun hc => ?_)
    · rw [if_neg hc] at h
      refine aw_aload_n d_Model_lays_24 rfl rfl ?_
      obtain ⟨t25, e_t25, h⟩ := q_bind h
      refine aw_gtr d_Model_lays_25 fl_Model_27 (Or.inr ⟨_, rfl⟩) e_t25 ?_
      refine aw_iload_n d_Model_lays_28 rfl rfl ?_
      obtain ⟨t29, e_t29, h⟩ := q_bind h
      refine aw_ldz d_Model_lays_29 e_t29 ?_
      refine aw_if_ne (tgt := 35) d_Model_lays_30 (by decide) (fun hc => ?_) (fun hc => ?_)
      · rw [if_neg hc] at h
        refine aw_aload_n d_Model_lays_35 rfl rfl ?_
        obtain ⟨t36, e_t36, h⟩ := q_bind h
        refine aw_gti d_Model_lays_36 fl_Model_203 (Or.inl rfl) e_t36 ?_
        refine aw_istore_n (ls' := [(3, .int _), (0, .ref _), (1, .int _), (2, .int _)]) d_Model_lays_39 rfl (Nat.le_of_ble_eq_true rfl) rfl ?_
        exact aw_pick [1, 2, 3, 0] rfl (ih_1 _ _ _ _ _ h)
      · rw [if_pos hc] at h
        refine aw_iconst (v := 0) d_Model_lays_33 (by decide) ?_
        cases h
        exact aw_zreturn d_Model_lays_34 rfl (by decide) (Nat.le_of_ble_eq_true rfl) (Nat.le_of_ble_eq_true rfl) ⟨rfl, rfl⟩
    · rw [if_pos hc] at h
      refine aw_goto (tgt := 131) d_Model_lays_21 (by decide) ?_
      exact aw_pick [0, 1, 2] rfl (ih_4 _ _ _ _ _ h)
set_option maxHeartbeats 4000000 in
theorem s_Model_lays_1 {rc : Nat → Nat → Int32 → Int32 → Int32 → am_M → Option (Int32 × am_M)} {res : Int32} {M' : am_M} (ih_0 : ∀ (r0 : Nat) (x1 : Int32) (x2 : Int32) (x3 : Int32) (M : am_M), rc 0 r0 x1 x2 x3 M = some (res, M') → AW u_Model_lays R_Model_lays 0 0 7 [(0, .ref r0), (1, .int x1), (2, .int x2)] [] M (fun r M2 => r = .inl (some (.int res)) ∧ M2 = M')) (ih_1 : ∀ (r0 : Nat) (x1 : Int32) (x2 : Int32) (x3 : Int32) (M : am_M), rc 1 r0 x1 x2 x3 M = some (res, M') → AW u_Model_lays R_Model_lays 0 0 40 [(0, .ref r0), (1, .int x1), (2, .int x2), (3, .int x3)] [] M (fun r M2 => r = .inl (some (.int res)) ∧ M2 = M')) (ih_2 : ∀ (r0 : Nat) (x1 : Int32) (x2 : Int32) (x3 : Int32) (M : am_M), rc 2 r0 x1 x2 x3 M = some (res, M') → AW u_Model_lays R_Model_lays 0 0 86 [(0, .ref r0), (1, .int x1), (2, .int x2), (3, .int x3)] [] M (fun r M2 => r = .inl (some (.int res)) ∧ M2 = M')) (ih_3 : ∀ (r0 : Nat) (x1 : Int32) (x2 : Int32) (x3 : Int32) (M : am_M), rc 3 r0 x1 x2 x3 M = some (res, M') → AW u_Model_lays R_Model_lays 0 0 114 [(0, .ref r0), (1, .int x1), (2, .int x2), (3, .int x3)] [] M (fun r M2 => r = .inl (some (.int res)) ∧ M2 = M')) (ih_4 : ∀ (r0 : Nat) (x1 : Int32) (x2 : Int32) (x3 : Int32) (M : am_M), rc 4 r0 x1 x2 x3 M = some (res, M') → AW u_Model_lays R_Model_lays 0 0 131 [(0, .ref r0), (1, .int x1), (2, .int x2)] [] M (fun r M2 => r = .inl (some (.int res)) ∧ M2 = M')) : ∀ (r0 : Nat) (x1 : Int32) (x2 : Int32) (x3 : Int32) (M : am_M), a_Model_lays_1 rc r0 x1 x2 x3 M = some (res, M') → AW u_Model_lays R_Model_lays 0 0 40 [(0, .ref r0), (1, .int x1), (2, .int x2), (3, .int x3)] [] M (fun r M2 => r = .inl (some (.int res)) ∧ M2 = M') := by
  intro r0 x1 x2 x3 M h
  unfold a_Model_lays_1 at h
  refine aw_iload_n d_Model_lays_40 rfl rfl ?_
  refine aw_if_le (tgt := 86) d_Model_lays_41 (by decide) (fun hc => ?_) (fun hc => ?_)
  · rw [if_pos hc] at h
    exact aw_pick [0, 1, 2, 3] rfl (ih_2 _ _ _ _ _ h)
  · rw [if_neg hc] at h
    refine aw_aload_n d_Model_lays_44 rfl rfl ?_
    obtain ⟨t45, e_t45, h⟩ := q_bind h
    refine aw_gtr d_Model_lays_45 fl_Model_36 (Or.inr ⟨_, rfl⟩) e_t45 ?_
    refine aw_aload_n d_Model_lays_48 rfl rfl ?_
    obtain ⟨t49, e_t49, h⟩ := q_bind h
    refine aw_gtr d_Model_lays_49 fl_Model_87 (Or.inr ⟨_, rfl⟩) e_t49 ?_
    refine aw_iload_n d_Model_lays_52 rfl rfl ?_
    refine aw_iconst (v := 1) d_Model_lays_53 (by decide) ?_
    refine aw_isub d_Model_lays_54 ?_
    obtain ⟨t55, e_t55, h⟩ := q_bind h
    refine aw_ldi d_Model_lays_55 e_t55 ?_
    obtain ⟨t56, e_t56, h⟩ := q_bind h
    refine aw_ldi d_Model_lays_56 e_t56 ?_
    refine aw_aload_n d_Model_lays_57 rfl rfl ?_
    obtain ⟨t58, e_t58, h⟩ := q_bind h
    refine aw_gtr d_Model_lays_58 fl_Model_36 (Or.inr ⟨_, rfl⟩) e_t58 ?_
    refine aw_iload_n d_Model_lays_61 rfl rfl ?_
    obtain ⟨t62, e_t62, h⟩ := q_bind h
    refine aw_ldi d_Model_lays_62 e_t62 ?_
    refine aw_icmp_le (tgt := 86) d_Model_lays_63 (by decide) (fun hc => ?_) (fun hc => ?_)
    · rw [if_pos hc] at h
      exact aw_pick [0, 1, 2, 3] rfl (ih_2 _ _ _ _ _ h)
    · rw [if_neg hc] at h
      refine aw_aload_n d_Model_lays_66 rfl rfl ?_
      obtain ⟨t67, e_t67, h⟩ := q_bind h
      refine aw_gtr d_Model_lays_67 fl_Model_87 (Or.inr ⟨_, rfl⟩) e_t67 ?_
      refine aw_iload_n d_Model_lays_70 rfl rfl ?_
      refine aw_aload_n d_Model_lays_71 rfl rfl ?_
      obtain ⟨t72, e_t72, h⟩ := q_bind h
      refine aw_gtr d_Model_lays_72 fl_Model_87 (Or.inr ⟨_, rfl⟩) e_t72 ?_
      refine aw_iload_n d_Model_lays_75 rfl rfl ?_
      refine aw_iconst (v := 1) d_Model_lays_76 (by decide) ?_
      refine aw_isub d_Model_lays_77 ?_
      obtain ⟨t78, e_t78, h⟩ := q_bind h
      refine aw_ldi d_Model_lays_78 e_t78 ?_
      obtain ⟨M79, e_M79, h⟩ := q_bind h
      refine aw_sti d_Model_lays_79 e_M79 ?_
      refine aw_iinc (v := (x3 + (-1 : Int32))) (ls' := [(3, .int _), (0, .ref _), (1, .int _), (2, .int _)]) d_Model_lays_80 rfl rfl (Nat.le_of_ble_eq_true rfl) rfl ?_
      refine aw_goto (tgt := 40) d_Model_lays_83 (by decide) ?_
      exact aw_pick [1, 2, 3, 0] rfl (ih_1 _ _ _ _ _ h)
set_option maxHeartbeats 4000000 in
theorem s_Model_lays_2 {rc : Nat → Nat → Int32 → Int32 → Int32 → am_M → Option (Int32 × am_M)} {res : Int32} {M' : am_M} (ih_0 : ∀ (r0 : Nat) (x1 : Int32) (x2 : Int32) (x3 : Int32) (M : am_M), rc 0 r0 x1 x2 x3 M = some (res, M') → AW u_Model_lays R_Model_lays 0 0 7 [(0, .ref r0), (1, .int x1), (2, .int x2)] [] M (fun r M2 => r = .inl (some (.int res)) ∧ M2 = M')) (ih_1 : ∀ (r0 : Nat) (x1 : Int32) (x2 : Int32) (x3 : Int32) (M : am_M), rc 1 r0 x1 x2 x3 M = some (res, M') → AW u_Model_lays R_Model_lays 0 0 40 [(0, .ref r0), (1, .int x1), (2, .int x2), (3, .int x3)] [] M (fun r M2 => r = .inl (some (.int res)) ∧ M2 = M')) (ih_2 : ∀ (r0 : Nat) (x1 : Int32) (x2 : Int32) (x3 : Int32) (M : am_M), rc 2 r0 x1 x2 x3 M = some (res, M') → AW u_Model_lays R_Model_lays 0 0 86 [(0, .ref r0), (1, .int x1), (2, .int x2), (3, .int x3)] [] M (fun r M2 => r = .inl (some (.int res)) ∧ M2 = M')) (ih_3 : ∀ (r0 : Nat) (x1 : Int32) (x2 : Int32) (x3 : Int32) (M : am_M), rc 3 r0 x1 x2 x3 M = some (res, M') → AW u_Model_lays R_Model_lays 0 0 114 [(0, .ref r0), (1, .int x1), (2, .int x2), (3, .int x3)] [] M (fun r M2 => r = .inl (some (.int res)) ∧ M2 = M')) (ih_4 : ∀ (r0 : Nat) (x1 : Int32) (x2 : Int32) (x3 : Int32) (M : am_M), rc 4 r0 x1 x2 x3 M = some (res, M') → AW u_Model_lays R_Model_lays 0 0 131 [(0, .ref r0), (1, .int x1), (2, .int x2)] [] M (fun r M2 => r = .inl (some (.int res)) ∧ M2 = M')) : ∀ (r0 : Nat) (x1 : Int32) (x2 : Int32) (x3 : Int32) (M : am_M), a_Model_lays_2 rc r0 x1 x2 x3 M = some (res, M') → AW u_Model_lays R_Model_lays 0 0 86 [(0, .ref r0), (1, .int x1), (2, .int x2), (3, .int x3)] [] M (fun r M2 => r = .inl (some (.int res)) ∧ M2 = M') := by
  intro r0 x1 x2 x3 M h
  unfold a_Model_lays_2 at h
  refine aw_iload_n d_Model_lays_86 rfl rfl ?_
  refine aw_if_le (tgt := 114) d_Model_lays_87 (by decide) (fun hc => ?_) (fun hc => ?_)
  · rw [if_pos hc] at h
    exact aw_pick [0, 1, 2, 3] rfl (ih_3 _ _ _ _ _ h)
  · rw [if_neg hc] at h
    refine aw_aload_n d_Model_lays_90 rfl rfl ?_
    obtain ⟨t91, e_t91, h⟩ := q_bind h
    refine aw_gtr d_Model_lays_91 fl_Model_36 (Or.inr ⟨_, rfl⟩) e_t91 ?_
    refine aw_aload_n d_Model_lays_94 rfl rfl ?_
    obtain ⟨t95, e_t95, h⟩ := q_bind h
    refine aw_gtr d_Model_lays_95 fl_Model_87 (Or.inr ⟨_, rfl⟩) e_t95 ?_
    refine aw_iload_n d_Model_lays_98 rfl rfl ?_
    refine aw_iconst (v := 1) d_Model_lays_99 (by decide) ?_
    refine aw_isub d_Model_lays_100 ?_
    obtain ⟨t101, e_t101, h⟩ := q_bind h
    refine aw_ldi d_Model_lays_101 e_t101 ?_
    obtain ⟨t102, e_t102, h⟩ := q_bind h
    refine aw_ldi d_Model_lays_102 e_t102 ?_
    refine aw_aload_n d_Model_lays_103 rfl rfl ?_
    obtain ⟨t104, e_t104, h⟩ := q_bind h
    refine aw_gtr d_Model_lays_104 fl_Model_36 (Or.inr ⟨_, rfl⟩) e_t104 ?_
    refine aw_iload_n d_Model_lays_107 rfl rfl ?_
    obtain ⟨t108, e_t108, h⟩ := q_bind h
    refine aw_ldi d_Model_lays_108 e_t108 ?_
    refine aw_icmp_ne (tgt := 114) d_Model_lays_109 (by decide) (fun hc => ?_) (fun hc => ?_)
    · rw [if_neg hc] at h
      exact aw_pick [0, 1, 2, 3] rfl (ih_3 _ _ _ _ _ h)
    · rw [if_pos hc] at h
      refine aw_iconst (v := 0) d_Model_lays_112 (by decide) ?_
      cases h
      exact aw_zreturn d_Model_lays_113 rfl (by decide) (Nat.le_of_ble_eq_true rfl) (Nat.le_of_ble_eq_true rfl) ⟨rfl, rfl⟩
set_option maxHeartbeats 4000000 in
theorem s_Model_lays_3 {rc : Nat → Nat → Int32 → Int32 → Int32 → am_M → Option (Int32 × am_M)} {res : Int32} {M' : am_M} (ih_0 : ∀ (r0 : Nat) (x1 : Int32) (x2 : Int32) (x3 : Int32) (M : am_M), rc 0 r0 x1 x2 x3 M = some (res, M') → AW u_Model_lays R_Model_lays 0 0 7 [(0, .ref r0), (1, .int x1), (2, .int x2)] [] M (fun r M2 => r = .inl (some (.int res)) ∧ M2 = M')) (ih_1 : ∀ (r0 : Nat) (x1 : Int32) (x2 : Int32) (x3 : Int32) (M : am_M), rc 1 r0 x1 x2 x3 M = some (res, M') → AW u_Model_lays R_Model_lays 0 0 40 [(0, .ref r0), (1, .int x1), (2, .int x2), (3, .int x3)] [] M (fun r M2 => r = .inl (some (.int res)) ∧ M2 = M')) (ih_2 : ∀ (r0 : Nat) (x1 : Int32) (x2 : Int32) (x3 : Int32) (M : am_M), rc 2 r0 x1 x2 x3 M = some (res, M') → AW u_Model_lays R_Model_lays 0 0 86 [(0, .ref r0), (1, .int x1), (2, .int x2), (3, .int x3)] [] M (fun r M2 => r = .inl (some (.int res)) ∧ M2 = M')) (ih_3 : ∀ (r0 : Nat) (x1 : Int32) (x2 : Int32) (x3 : Int32) (M : am_M), rc 3 r0 x1 x2 x3 M = some (res, M') → AW u_Model_lays R_Model_lays 0 0 114 [(0, .ref r0), (1, .int x1), (2, .int x2), (3, .int x3)] [] M (fun r M2 => r = .inl (some (.int res)) ∧ M2 = M')) (ih_4 : ∀ (r0 : Nat) (x1 : Int32) (x2 : Int32) (x3 : Int32) (M : am_M), rc 4 r0 x1 x2 x3 M = some (res, M') → AW u_Model_lays R_Model_lays 0 0 131 [(0, .ref r0), (1, .int x1), (2, .int x2)] [] M (fun r M2 => r = .inl (some (.int res)) ∧ M2 = M')) : ∀ (r0 : Nat) (x1 : Int32) (x2 : Int32) (x3 : Int32) (M : am_M), a_Model_lays_3 rc r0 x1 x2 x3 M = some (res, M') → AW u_Model_lays R_Model_lays 0 0 114 [(0, .ref r0), (1, .int x1), (2, .int x2), (3, .int x3)] [] M (fun r M2 => r = .inl (some (.int res)) ∧ M2 = M') := by
  intro r0 x1 x2 x3 M h
  unfold a_Model_lays_3 at h
  refine aw_aload_n d_Model_lays_114 rfl rfl ?_
  obtain ⟨t115, e_t115, h⟩ := q_bind h
  refine aw_gtr d_Model_lays_115 fl_Model_87 (Or.inr ⟨_, rfl⟩) e_t115 ?_
  refine aw_iload_n d_Model_lays_118 rfl rfl ?_
  refine aw_iload_n d_Model_lays_119 rfl rfl ?_
  obtain ⟨M120, e_M120, h⟩ := q_bind h
  refine aw_sti d_Model_lays_120 e_M120 ?_
  refine aw_aload_n d_Model_lays_121 rfl rfl ?_
  refine aw_dup d_Model_lays_122 rfl ?_
  obtain ⟨t123, e_t123, h⟩ := q_bind h
  refine aw_gti d_Model_lays_123 fl_Model_203 (Or.inl rfl) e_t123 ?_
  refine aw_iconst (v := 1) d_Model_lays_126 (by decide) ?_
  refine aw_iadd d_Model_lays_127 ?_
  obtain ⟨M128, e_M128, h⟩ := q_bind h
  refine aw_pti d_Model_lays_128 fl_Model_203 rfl rfl e_M128 ?_
  exact aw_pick [0, 1, 2] rfl (ih_4 _ _ _ _ _ h)
set_option maxHeartbeats 4000000 in
theorem s_Model_lays_4 {rc : Nat → Nat → Int32 → Int32 → Int32 → am_M → Option (Int32 × am_M)} {res : Int32} {M' : am_M} (ih_0 : ∀ (r0 : Nat) (x1 : Int32) (x2 : Int32) (x3 : Int32) (M : am_M), rc 0 r0 x1 x2 x3 M = some (res, M') → AW u_Model_lays R_Model_lays 0 0 7 [(0, .ref r0), (1, .int x1), (2, .int x2)] [] M (fun r M2 => r = .inl (some (.int res)) ∧ M2 = M')) (ih_1 : ∀ (r0 : Nat) (x1 : Int32) (x2 : Int32) (x3 : Int32) (M : am_M), rc 1 r0 x1 x2 x3 M = some (res, M') → AW u_Model_lays R_Model_lays 0 0 40 [(0, .ref r0), (1, .int x1), (2, .int x2), (3, .int x3)] [] M (fun r M2 => r = .inl (some (.int res)) ∧ M2 = M')) (ih_2 : ∀ (r0 : Nat) (x1 : Int32) (x2 : Int32) (x3 : Int32) (M : am_M), rc 2 r0 x1 x2 x3 M = some (res, M') → AW u_Model_lays R_Model_lays 0 0 86 [(0, .ref r0), (1, .int x1), (2, .int x2), (3, .int x3)] [] M (fun r M2 => r = .inl (some (.int res)) ∧ M2 = M')) (ih_3 : ∀ (r0 : Nat) (x1 : Int32) (x2 : Int32) (x3 : Int32) (M : am_M), rc 3 r0 x1 x2 x3 M = some (res, M') → AW u_Model_lays R_Model_lays 0 0 114 [(0, .ref r0), (1, .int x1), (2, .int x2), (3, .int x3)] [] M (fun r M2 => r = .inl (some (.int res)) ∧ M2 = M')) (ih_4 : ∀ (r0 : Nat) (x1 : Int32) (x2 : Int32) (x3 : Int32) (M : am_M), rc 4 r0 x1 x2 x3 M = some (res, M') → AW u_Model_lays R_Model_lays 0 0 131 [(0, .ref r0), (1, .int x1), (2, .int x2)] [] M (fun r M2 => r = .inl (some (.int res)) ∧ M2 = M')) : ∀ (r0 : Nat) (x1 : Int32) (x2 : Int32) (x3 : Int32) (M : am_M), a_Model_lays_4 rc r0 x1 x2 x3 M = some (res, M') → AW u_Model_lays R_Model_lays 0 0 131 [(0, .ref r0), (1, .int x1), (2, .int x2)] [] M (fun r M2 => r = .inl (some (.int res)) ∧ M2 = M') := by
  intro r0 x1 x2 x3 M h
  unfold a_Model_lays_4 at h
  refine aw_iinc (v := (x2 + (1 : Int32))) (ls' := [(2, .int _), (0, .ref _), (1, .int _)]) d_Model_lays_131 rfl rfl (Nat.le_of_ble_eq_true rfl) rfl ?_
  refine aw_goto (tgt := 7) d_Model_lays_134 (by decide) ?_
  exact aw_pick [1, 2, 0] rfl (ih_0 _ _ _ _ _ h)
theorem l_Model_lays {res : Int32} {M' : am_M} : ∀ F : Nat, (∀ (r0 : Nat) (x1 : Int32) (x2 : Int32) (x3 : Int32) (M : am_M), g_Model_lays F 0 r0 x1 x2 x3 M = some (res, M') → AW u_Model_lays R_Model_lays 0 0 7 [(0, .ref r0), (1, .int x1), (2, .int x2)] [] M (fun r M2 => r = .inl (some (.int res)) ∧ M2 = M')) ∧ (∀ (r0 : Nat) (x1 : Int32) (x2 : Int32) (x3 : Int32) (M : am_M), g_Model_lays F 1 r0 x1 x2 x3 M = some (res, M') → AW u_Model_lays R_Model_lays 0 0 40 [(0, .ref r0), (1, .int x1), (2, .int x2), (3, .int x3)] [] M (fun r M2 => r = .inl (some (.int res)) ∧ M2 = M')) ∧ (∀ (r0 : Nat) (x1 : Int32) (x2 : Int32) (x3 : Int32) (M : am_M), g_Model_lays F 2 r0 x1 x2 x3 M = some (res, M') → AW u_Model_lays R_Model_lays 0 0 86 [(0, .ref r0), (1, .int x1), (2, .int x2), (3, .int x3)] [] M (fun r M2 => r = .inl (some (.int res)) ∧ M2 = M')) ∧ (∀ (r0 : Nat) (x1 : Int32) (x2 : Int32) (x3 : Int32) (M : am_M), g_Model_lays F 3 r0 x1 x2 x3 M = some (res, M') → AW u_Model_lays R_Model_lays 0 0 114 [(0, .ref r0), (1, .int x1), (2, .int x2), (3, .int x3)] [] M (fun r M2 => r = .inl (some (.int res)) ∧ M2 = M')) ∧ (∀ (r0 : Nat) (x1 : Int32) (x2 : Int32) (x3 : Int32) (M : am_M), g_Model_lays F 4 r0 x1 x2 x3 M = some (res, M') → AW u_Model_lays R_Model_lays 0 0 131 [(0, .ref r0), (1, .int x1), (2, .int x2)] [] M (fun r M2 => r = .inl (some (.int res)) ∧ M2 = M')) := by
  intro F
  induction F with
  | zero => exact ⟨fun _ _ _ _ _  h => (by cases h), fun _ _ _ _ _  h => (by cases h), fun _ _ _ _ _  h => (by cases h), fun _ _ _ _ _  h => (by cases h), fun _ _ _ _ _  h => (by cases h)⟩
  | succ F ih =>
    obtain ⟨ih0, ih1, ih2, ih3, ih4⟩ := ih
    exact ⟨s_Model_lays_0 ih0 ih1 ih2 ih3 ih4, s_Model_lays_1 ih0 ih1 ih2 ih3 ih4, s_Model_lays_2 ih0 ih1 ih2 ih3 ih4, s_Model_lays_3 ih0 ih1 ih2 ih3 ih4, s_Model_lays_4 ih0 ih1 ih2 ih3 ih4⟩
set_option maxHeartbeats 4000000 in
theorem mt_Model_lays {M : am_M} {a0 : Nat} {a1 : Int32} {res : Int32} {M' : am_M} (h : f_Model_lays M a0 a1 = some (res, M')) : AMet y_Model_lays u_Model_lays R_Model_lays [.ref a0, .int a1] M (fun r M2 => r = .inl (some (.int res)) ∧ M2 = M') := by
  refine am_met (by decide +kernel) w_Model_lays rfl rfl (Nat.le_of_ble_eq_true rfl) ?_
  show AW u_Model_lays R_Model_lays 0 0 0 [(0, .ref a0), (1, .int a1)] [] M (fun r M2 => r = .inl (some (.int res)) ∧ M2 = M')
  have ih_0 := (l_Model_lays (res := res) (M' := M') 1000000000).1
  have ih_1 := (l_Model_lays (res := res) (M' := M') 1000000000).2.1
  have ih_2 := (l_Model_lays (res := res) (M' := M') 1000000000).2.2.1
  have ih_3 := (l_Model_lays (res := res) (M' := M') 1000000000).2.2.2.1
  have ih_4 := (l_Model_lays (res := res) (M' := M') 1000000000).2.2.2.2
  unfold f_Model_lays at h
  unfold e_Model_lays at h
  generalize g_Model_lays 1000000000 = rc at h ih_0 ih_1 ih_2 ih_3 ih_4
  refine aw_aload_n d_Model_lays_0 rfl rfl ?_
  refine aw_iconst (v := 0) d_Model_lays_1 (by decide) ?_
  obtain ⟨M2, e_M2, h⟩ := q_bind h
  refine aw_pti d_Model_lays_2 fl_Model_203 rfl rfl e_M2 ?_
  refine aw_iconst (v := 0) d_Model_lays_5 (by decide) ?_
  refine aw_istore_n (ls' := [(2, .int _), (0, .ref _), (1, .int _)]) d_Model_lays_6 rfl (Nat.le_of_ble_eq_true rfl) rfl ?_
  exact aw_pick [1, 2, 0] rfl (ih_0 _ _ _ _ _ h)
def y_Model_isBefore : MethodName := ⟨"CrewOfficeModel", "isBefore", "(I)Z"⟩
def u_Model_isBefore : am_U := ("CrewOfficeModel", "isBefore", prog_12_method_34_code, 3, (some .boolean), [])
def R_Model_isBefore : Room := { frames := 0, cells := 0, slots := 0, locals := 0 }
theorem d_Model_isBefore_0 : decode u_Model_isBefore.2.2.1 0 = .ok (.iconst 0, 1) := by decide +kernel
theorem d_Model_isBefore_1 : decode u_Model_isBefore.2.2.1 1 = .ok (.istore_n 2, 1) := by decide +kernel
theorem d_Model_isBefore_2 : decode u_Model_isBefore.2.2.1 2 = .ok (.iload_n 2, 1) := by decide +kernel
theorem d_Model_isBefore_3 : decode u_Model_isBefore.2.2.1 3 = .ok (.aload_n 0, 1) := by decide +kernel
theorem d_Model_isBefore_4 : decode u_Model_isBefore.2.2.1 4 = .ok (.getfield 203, 3) := by decide +kernel
theorem d_Model_isBefore_7 : decode u_Model_isBefore.2.2.1 7 = .ok (.if_icmp .ge 65, 3) := by decide +kernel
theorem d_Model_isBefore_10 : decode u_Model_isBefore.2.2.1 10 = .ok (.iload_n 2, 1) := by decide +kernel
theorem d_Model_isBefore_11 : decode u_Model_isBefore.2.2.1 11 = .ok (.aload_n 0, 1) := by decide +kernel
theorem d_Model_isBefore_12 : decode u_Model_isBefore.2.2.1 12 = .ok (.getfield 109, 3) := by decide +kernel
theorem d_Model_isBefore_15 : decode u_Model_isBefore.2.2.1 15 = .ok (.iload_n 1, 1) := by decide +kernel
theorem d_Model_isBefore_16 : decode u_Model_isBefore.2.2.1 16 = .ok (.iaload, 1) := by decide +kernel
theorem d_Model_isBefore_17 : decode u_Model_isBefore.2.2.1 17 = .ok (.if_icmp .ge 55, 3) := by decide +kernel
theorem d_Model_isBefore_20 : decode u_Model_isBefore.2.2.1 20 = .ok (.aload_n 0, 1) := by decide +kernel
theorem d_Model_isBefore_21 : decode u_Model_isBefore.2.2.1 21 = .ok (.getfield 87, 3) := by decide +kernel
theorem d_Model_isBefore_24 : decode u_Model_isBefore.2.2.1 24 = .ok (.iload_n 2, 1) := by decide +kernel
theorem d_Model_isBefore_25 : decode u_Model_isBefore.2.2.1 25 = .ok (.iaload, 1) := by decide +kernel
theorem d_Model_isBefore_26 : decode u_Model_isBefore.2.2.1 26 = .ok (.aload_n 0, 1) := by decide +kernel
theorem d_Model_isBefore_27 : decode u_Model_isBefore.2.2.1 27 = .ok (.getfield 106, 3) := by decide +kernel
theorem d_Model_isBefore_30 : decode u_Model_isBefore.2.2.1 30 = .ok (.bipush 8, 2) := by decide +kernel
theorem d_Model_isBefore_32 : decode u_Model_isBefore.2.2.1 32 = .ok (.iload_n 1, 1) := by decide +kernel
theorem d_Model_isBefore_33 : decode u_Model_isBefore.2.2.1 33 = .ok (.imul, 1) := by decide +kernel
theorem d_Model_isBefore_34 : decode u_Model_isBefore.2.2.1 34 = .ok (.iload_n 2, 1) := by decide +kernel
theorem d_Model_isBefore_35 : decode u_Model_isBefore.2.2.1 35 = .ok (.iadd, 1) := by decide +kernel
theorem d_Model_isBefore_36 : decode u_Model_isBefore.2.2.1 36 = .ok (.iaload, 1) := by decide +kernel
theorem d_Model_isBefore_37 : decode u_Model_isBefore.2.2.1 37 = .ok (.if_icmp .eq 29, 3) := by decide +kernel
theorem d_Model_isBefore_40 : decode u_Model_isBefore.2.2.1 40 = .ok (.aload_n 0, 1) := by decide +kernel
theorem d_Model_isBefore_41 : decode u_Model_isBefore.2.2.1 41 = .ok (.getfield 87, 3) := by decide +kernel
theorem d_Model_isBefore_44 : decode u_Model_isBefore.2.2.1 44 = .ok (.iload_n 2, 1) := by decide +kernel
theorem d_Model_isBefore_45 : decode u_Model_isBefore.2.2.1 45 = .ok (.iaload, 1) := by decide +kernel
theorem d_Model_isBefore_46 : decode u_Model_isBefore.2.2.1 46 = .ok (.aload_n 0, 1) := by decide +kernel
theorem d_Model_isBefore_47 : decode u_Model_isBefore.2.2.1 47 = .ok (.getfield 106, 3) := by decide +kernel
theorem d_Model_isBefore_50 : decode u_Model_isBefore.2.2.1 50 = .ok (.bipush 8, 2) := by decide +kernel
theorem d_Model_isBefore_52 : decode u_Model_isBefore.2.2.1 52 = .ok (.iload_n 1, 1) := by decide +kernel
theorem d_Model_isBefore_53 : decode u_Model_isBefore.2.2.1 53 = .ok (.imul, 1) := by decide +kernel
theorem d_Model_isBefore_54 : decode u_Model_isBefore.2.2.1 54 = .ok (.iload_n 2, 1) := by decide +kernel
theorem d_Model_isBefore_55 : decode u_Model_isBefore.2.2.1 55 = .ok (.iadd, 1) := by decide +kernel
theorem d_Model_isBefore_56 : decode u_Model_isBefore.2.2.1 56 = .ok (.iaload, 1) := by decide +kernel
theorem d_Model_isBefore_57 : decode u_Model_isBefore.2.2.1 57 = .ok (.if_icmp .ge 7, 3) := by decide +kernel
theorem d_Model_isBefore_60 : decode u_Model_isBefore.2.2.1 60 = .ok (.iconst 1, 1) := by decide +kernel
theorem d_Model_isBefore_61 : decode u_Model_isBefore.2.2.1 61 = .ok (.goto 4, 3) := by decide +kernel
theorem d_Model_isBefore_64 : decode u_Model_isBefore.2.2.1 64 = .ok (.iconst 0, 1) := by decide +kernel
theorem d_Model_isBefore_65 : decode u_Model_isBefore.2.2.1 65 = .ok (.ireturn, 1) := by decide +kernel
theorem d_Model_isBefore_66 : decode u_Model_isBefore.2.2.1 66 = .ok (.iinc 2 1, 3) := by decide +kernel
theorem d_Model_isBefore_69 : decode u_Model_isBefore.2.2.1 69 = .ok (.goto (-67), 3) := by decide +kernel
theorem d_Model_isBefore_72 : decode u_Model_isBefore.2.2.1 72 = .ok (.aload_n 0, 1) := by decide +kernel
theorem d_Model_isBefore_73 : decode u_Model_isBefore.2.2.1 73 = .ok (.getfield 203, 3) := by decide +kernel
theorem d_Model_isBefore_76 : decode u_Model_isBefore.2.2.1 76 = .ok (.aload_n 0, 1) := by decide +kernel
theorem d_Model_isBefore_77 : decode u_Model_isBefore.2.2.1 77 = .ok (.getfield 109, 3) := by decide +kernel
theorem d_Model_isBefore_80 : decode u_Model_isBefore.2.2.1 80 = .ok (.iload_n 1, 1) := by decide +kernel
theorem d_Model_isBefore_81 : decode u_Model_isBefore.2.2.1 81 = .ok (.iaload, 1) := by decide +kernel
theorem d_Model_isBefore_82 : decode u_Model_isBefore.2.2.1 82 = .ok (.if_icmp .ge 7, 3) := by decide +kernel
theorem d_Model_isBefore_85 : decode u_Model_isBefore.2.2.1 85 = .ok (.iconst 1, 1) := by decide +kernel
theorem d_Model_isBefore_86 : decode u_Model_isBefore.2.2.1 86 = .ok (.goto 4, 3) := by decide +kernel
theorem d_Model_isBefore_89 : decode u_Model_isBefore.2.2.1 89 = .ok (.iconst 0, 1) := by decide +kernel
theorem d_Model_isBefore_90 : decode u_Model_isBefore.2.2.1 90 = .ok (.ireturn, 1) := by decide +kernel
theorem w_Model_isBefore : am_code y_Model_isBefore u_Model_isBefore ∈ am_ws := am_mem (List.mem_of_getElem? (i := 1303) (by decide +kernel)) rfl
def a_Model_isBefore_0 (rc : Nat → Nat → Int32 → Int32 → am_M → Option (Int32)) (r0 : Nat) (x1 : Int32) (x2 : Int32) (M : am_M) : Option (Int32) := (q_gti M r0 10 28).bind (fun t4 => if t4 ≤ x2 then (rc 1 r0 x1 0 M) else ((q_gtr M r0 10 36).bind (fun t12 => (q_ldi M t12 x1).bind (fun t16 => if t16 ≤ x2 then (rc 1 r0 x1 0 M) else ((q_gtr M r0 10 27).bind (fun t21 => (q_ldi M t21 x2).bind (fun t25 => (q_gtr M r0 10 35).bind (fun t27 => (q_ldi M t27 (((8 : Int32) * x1) + x2)).bind (fun t36 => if t25 = t36 then (rc 0 r0 x1 (x2 + (1 : Int32)) M) else ((q_gtr M r0 10 27).bind (fun t41 => (q_ldi M t41 x2).bind (fun t45 => (q_gtr M r0 10 35).bind (fun t47 => (q_ldi M t47 (((8 : Int32) * x1) + x2)).bind (fun t56 => if t56 ≤ t45 then (some (0 : Int32)) else (some (1 : Int32))))))))))))))))
def a_Model_isBefore_1 (rc : Nat → Nat → Int32 → Int32 → am_M → Option (Int32)) (r0 : Nat) (x1 : Int32) (x2 : Int32) (M : am_M) : Option (Int32) := (q_gti M r0 10 28).bind (fun t73 => (q_gtr M r0 10 36).bind (fun t77 => (q_ldi M t77 x1).bind (fun t81 => if t81 ≤ t73 then (some (0 : Int32)) else (some (1 : Int32)))))
def g_Model_isBefore : Nat → Nat → Nat → Int32 → Int32 → am_M → Option (Int32)
  | 0, _, _, _, _, _ => none
  | F + 1, 0, r0, x1, x2, M => a_Model_isBefore_0 (g_Model_isBefore F) r0 x1 x2 M
  | F + 1, 1, r0, x1, x2, M => a_Model_isBefore_1 (g_Model_isBefore F) r0 x1 x2 M
  | _ + 1, _ + 2, _, _, _, _ => none
def e_Model_isBefore (rc : Nat → Nat → Int32 → Int32 → am_M → Option (Int32)) (M : am_M) (a0 : Nat) (a1 : Int32) : Option (Int32) := rc 0 a0 a1 (0 : Int32) M
def f_Model_isBefore (M : am_M) (a0 : Nat) (a1 : Int32) : Option (Int32) := e_Model_isBefore (g_Model_isBefore 1000000000) M a0 a1
theorem fl_Model_106 : am_fl "CrewOfficeModel" 106 10 35 := ⟨by decide, by decide, List.mem_of_getElem? (i := 1041) (by decide +kernel)⟩
theorem fl_Model_109 : am_fl "CrewOfficeModel" 109 10 36 := ⟨by decide, by decide, List.mem_of_getElem? (i := 1042) (by decide +kernel)⟩
set_option maxHeartbeats 4000000 in
theorem s_Model_isBefore_0 {rc : Nat → Nat → Int32 → Int32 → am_M → Option (Int32)} {res : Int32} (ih_0 : ∀ (r0 : Nat) (x1 : Int32) (x2 : Int32) (M : am_M), rc 0 r0 x1 x2 M = some res → AW u_Model_isBefore R_Model_isBefore 0 0 2 [(0, .ref r0), (1, .int x1), (2, .int x2)] [] M (fun r M2 => r = .inl (some (.int res)) ∧ M2 = M)) (ih_1 : ∀ (r0 : Nat) (x1 : Int32) (x2 : Int32) (M : am_M), rc 1 r0 x1 x2 M = some res → AW u_Model_isBefore R_Model_isBefore 0 0 72 [(0, .ref r0), (1, .int x1)] [] M (fun r M2 => r = .inl (some (.int res)) ∧ M2 = M)) : ∀ (r0 : Nat) (x1 : Int32) (x2 : Int32) (M : am_M), a_Model_isBefore_0 rc r0 x1 x2 M = some res → AW u_Model_isBefore R_Model_isBefore 0 0 2 [(0, .ref r0), (1, .int x1), (2, .int x2)] [] M (fun r M2 => r = .inl (some (.int res)) ∧ M2 = M) := by
  intro r0 x1 x2 M h
  unfold a_Model_isBefore_0 at h
  refine aw_iload_n d_Model_isBefore_2 rfl rfl ?_
  refine aw_aload_n d_Model_isBefore_3 rfl rfl ?_
  obtain ⟨t4, e_t4, h⟩ := q_bind h
  refine aw_gti d_Model_isBefore_4 fl_Model_203 (Or.inl rfl) e_t4 ?_
  refine aw_icmp_ge (tgt := 72) d_Model_isBefore_7 (by decide) (fun hc => ?_) (fun hc => ?_)
  · rw [if_pos hc] at h
    exact aw_pick [0, 1] rfl (ih_1 _ _ _ _ h)
  · rw [if_neg hc] at h
    refine aw_iload_n d_Model_isBefore_10 rfl rfl ?_
    refine aw_aload_n d_Model_isBefore_11 rfl rfl ?_
    obtain ⟨t12, e_t12, h⟩ := q_bind h
    refine aw_gtr d_Model_isBefore_12 fl_Model_109 (Or.inr ⟨_, rfl⟩) e_t12 ?_
    refine aw_iload_n d_Model_isBefore_15 rfl rfl ?_
    obtain ⟨t16, e_t16, h⟩ := q_bind h
    refine aw_ldi d_Model_isBefore_16 e_t16 ?_
    refine aw_icmp_ge (tgt := 72) d_Model_isBefore_17 (by decide) (fun hc => ?_) (fun hc => ?_)
    · rw [if_pos hc] at h
      exact aw_pick [0, 1] rfl (ih_1 _ _ _ _ h)
    · rw [if_neg hc] at h
      refine aw_aload_n d_Model_isBefore_20 rfl rfl ?_
      obtain ⟨t21, e_t21, h⟩ := q_bind h
      refine aw_gtr d_Model_isBefore_21 fl_Model_87 (Or.inr ⟨_, rfl⟩) e_t21 ?_
      refine aw_iload_n d_Model_isBefore_24 rfl rfl ?_
      obtain ⟨t25, e_t25, h⟩ := q_bind h
      refine aw_ldi d_Model_isBefore_25 e_t25 ?_
      refine aw_aload_n d_Model_isBefore_26 rfl rfl ?_
      obtain ⟨t27, e_t27, h⟩ := q_bind h
      refine aw_gtr d_Model_isBefore_27 fl_Model_106 (Or.inr ⟨_, rfl⟩) e_t27 ?_
      refine aw_bipush (v := 8) d_Model_isBefore_30 (by decide) ?_
      refine aw_iload_n d_Model_isBefore_32 rfl rfl ?_
      refine aw_imul d_Model_isBefore_33 ?_
      refine aw_iload_n d_Model_isBefore_34 rfl rfl ?_
      refine aw_iadd d_Model_isBefore_35 ?_
      obtain ⟨t36, e_t36, h⟩ := q_bind h
      refine aw_ldi d_Model_isBefore_36 e_t36 ?_
      refine aw_icmp_eq (tgt := 66) d_Model_isBefore_37 (by decide) (fun hc => ?_) (fun hc => ?_)
      · rw [if_pos hc] at h
        refine aw_iinc (v := (x2 + (1 : Int32))) (ls' := [(2, .int _), (0, .ref _), (1, .int _)]) d_Model_isBefore_66 rfl rfl (Nat.le_of_ble_eq_true rfl) rfl ?_
        refine aw_goto (tgt := 2) d_Model_isBefore_69 (by decide) ?_
        exact aw_pick [1, 2, 0] rfl (ih_0 _ _ _ _ h)
      · rw [if_neg hc] at h
        refine aw_aload_n d_Model_isBefore_40 rfl rfl ?_
        obtain ⟨t41, e_t41, h⟩ := q_bind h
        refine aw_gtr d_Model_isBefore_41 fl_Model_87 (Or.inr ⟨_, rfl⟩) e_t41 ?_
        refine aw_iload_n d_Model_isBefore_44 rfl rfl ?_
        obtain ⟨t45, e_t45, h⟩ := q_bind h
        refine aw_ldi d_Model_isBefore_45 e_t45 ?_
        refine aw_aload_n d_Model_isBefore_46 rfl rfl ?_
        obtain ⟨t47, e_t47, h⟩ := q_bind h
        refine aw_gtr d_Model_isBefore_47 fl_Model_106 (Or.inr ⟨_, rfl⟩) e_t47 ?_
        refine aw_bipush (v := 8) d_Model_isBefore_50 (by decide) ?_
        refine aw_iload_n d_Model_isBefore_52 rfl rfl ?_
        refine aw_imul d_Model_isBefore_53 ?_
        refine aw_iload_n d_Model_isBefore_54 rfl rfl ?_
        refine aw_iadd d_Model_isBefore_55 ?_
        obtain ⟨t56, e_t56, h⟩ := q_bind h
        refine aw_ldi d_Model_isBefore_56 e_t56 ?_
        refine aw_icmp_ge (tgt := 64) d_Model_isBefore_57 (by decide) (fun hc => ?_) (fun hc => ?_)
        · rw [if_pos hc] at h
          refine aw_iconst (v := 0) d_Model_isBefore_64 (by decide) ?_
          cases h
          exact aw_zreturn d_Model_isBefore_65 rfl (by decide) (Nat.le_of_ble_eq_true rfl) (Nat.le_of_ble_eq_true rfl) ⟨rfl, rfl⟩
        · rw [if_neg hc] at h
          refine aw_iconst (v := 1) d_Model_isBefore_60 (by decide) ?_
          refine aw_goto (tgt := 65) d_Model_isBefore_61 (by decide) ?_
          cases h
          exact aw_zreturn d_Model_isBefore_65 rfl (by decide) (Nat.le_of_ble_eq_true rfl) (Nat.le_of_ble_eq_true rfl) ⟨rfl, rfl⟩
set_option maxHeartbeats 4000000 in
theorem s_Model_isBefore_1 {rc : Nat → Nat → Int32 → Int32 → am_M → Option (Int32)} {res : Int32} (ih_0 : ∀ (r0 : Nat) (x1 : Int32) (x2 : Int32) (M : am_M), rc 0 r0 x1 x2 M = some res → AW u_Model_isBefore R_Model_isBefore 0 0 2 [(0, .ref r0), (1, .int x1), (2, .int x2)] [] M (fun r M2 => r = .inl (some (.int res)) ∧ M2 = M)) (ih_1 : ∀ (r0 : Nat) (x1 : Int32) (x2 : Int32) (M : am_M), rc 1 r0 x1 x2 M = some res → AW u_Model_isBefore R_Model_isBefore 0 0 72 [(0, .ref r0), (1, .int x1)] [] M (fun r M2 => r = .inl (some (.int res)) ∧ M2 = M)) : ∀ (r0 : Nat) (x1 : Int32) (x2 : Int32) (M : am_M), a_Model_isBefore_1 rc r0 x1 x2 M = some res → AW u_Model_isBefore R_Model_isBefore 0 0 72 [(0, .ref r0), (1, .int x1)] [] M (fun r M2 => r = .inl (some (.int res)) ∧ M2 = M) := by
  intro r0 x1 x2 M h
  unfold a_Model_isBefore_1 at h
  refine aw_aload_n d_Model_isBefore_72 rfl rfl ?_
  obtain ⟨t73, e_t73, h⟩ := q_bind h
  refine aw_gti d_Model_isBefore_73 fl_Model_203 (Or.inl rfl) e_t73 ?_
  refine aw_aload_n d_Model_isBefore_76 rfl rfl ?_
  obtain ⟨t77, e_t77, h⟩ := q_bind h
  refine aw_gtr d_Model_isBefore_77 fl_Model_109 (Or.inr ⟨_, rfl⟩) e_t77 ?_
  refine aw_iload_n d_Model_isBefore_80 rfl rfl ?_
  obtain ⟨t81, e_t81, h⟩ := q_bind h
  refine aw_ldi d_Model_isBefore_81 e_t81 ?_
  refine aw_icmp_ge (tgt := 89) d_Model_isBefore_82 (by decide) (fun hc => ?_) (fun hc => ?_)
  · rw [if_pos hc] at h
    refine aw_iconst (v := 0) d_Model_isBefore_89 (by decide) ?_
    cases h
    exact aw_zreturn d_Model_isBefore_90 rfl (by decide) (Nat.le_of_ble_eq_true rfl) (Nat.le_of_ble_eq_true rfl) ⟨rfl, rfl⟩
  · rw [if_neg hc] at h
    refine aw_iconst (v := 1) d_Model_isBefore_85 (by decide) ?_
    refine aw_goto (tgt := 90) d_Model_isBefore_86 (by decide) ?_
    cases h
    exact aw_zreturn d_Model_isBefore_90 rfl (by decide) (Nat.le_of_ble_eq_true rfl) (Nat.le_of_ble_eq_true rfl) ⟨rfl, rfl⟩
theorem l_Model_isBefore {res : Int32} : ∀ F : Nat, (∀ (r0 : Nat) (x1 : Int32) (x2 : Int32) (M : am_M), g_Model_isBefore F 0 r0 x1 x2 M = some res → AW u_Model_isBefore R_Model_isBefore 0 0 2 [(0, .ref r0), (1, .int x1), (2, .int x2)] [] M (fun r M2 => r = .inl (some (.int res)) ∧ M2 = M)) ∧ (∀ (r0 : Nat) (x1 : Int32) (x2 : Int32) (M : am_M), g_Model_isBefore F 1 r0 x1 x2 M = some res → AW u_Model_isBefore R_Model_isBefore 0 0 72 [(0, .ref r0), (1, .int x1)] [] M (fun r M2 => r = .inl (some (.int res)) ∧ M2 = M)) := by
  intro F
  induction F with
  | zero => exact ⟨fun _ _ _ _  h => (by cases h), fun _ _ _ _  h => (by cases h)⟩
  | succ F ih =>
    obtain ⟨ih0, ih1⟩ := ih
    exact ⟨s_Model_isBefore_0 ih0 ih1, s_Model_isBefore_1 ih0 ih1⟩
set_option maxHeartbeats 4000000 in
theorem mt_Model_isBefore {M : am_M} {a0 : Nat} {a1 : Int32} {res : Int32} (h : f_Model_isBefore M a0 a1 = some res) : AMet y_Model_isBefore u_Model_isBefore R_Model_isBefore [.ref a0, .int a1] M (fun r M2 => r = .inl (some (.int res)) ∧ M2 = M) := by
  refine am_met (by decide +kernel) w_Model_isBefore rfl rfl (Nat.le_of_ble_eq_true rfl) ?_
  show AW u_Model_isBefore R_Model_isBefore 0 0 0 [(0, .ref a0), (1, .int a1)] [] M (fun r M2 => r = .inl (some (.int res)) ∧ M2 = M)
  have ih_0 := (l_Model_isBefore (res := res) 1000000000).1
  have ih_1 := (l_Model_isBefore (res := res) 1000000000).2
  unfold f_Model_isBefore at h
  unfold e_Model_isBefore at h
  generalize g_Model_isBefore 1000000000 = rc at h ih_0 ih_1
  refine aw_iconst (v := 0) d_Model_isBefore_0 (by decide) ?_
  refine aw_istore_n (ls' := [(2, .int _), (0, .ref _), (1, .int _)]) d_Model_isBefore_1 rfl (Nat.le_of_ble_eq_true rfl) rfl ?_
  exact aw_pick [1, 2, 0] rfl (ih_0 _ _ _ _ h)
