-- Model_check Model_cover
def y_Model_check : MethodName := ⟨"CrewOfficeModel", "check", "(I)I"⟩
def u_Model_check : am_U := ("CrewOfficeModel", "check", prog_12_method_30_code, 2, (some .int), [])
def R_Model_check : Room := { frames := 6, cells := 0, slots := 0, locals := 138 }
theorem d_Model_check_0 : decode u_Model_check.2.2.1 0 = .ok (.aload_n 0, 1) := by decide +kernel
theorem d_Model_check_1 : decode u_Model_check.2.2.1 1 = .ok (.iload_n 1, 1) := by decide +kernel
theorem d_Model_check_2 : decode u_Model_check.2.2.1 2 = .ok (.iconst (-1), 1) := by decide +kernel
theorem d_Model_check_3 : decode u_Model_check.2.2.1 3 = .ok (.iconst 3, 1) := by decide +kernel
theorem d_Model_check_4 : decode u_Model_check.2.2.1 4 = .ok (.invokestatic 180, 3) := by decide +kernel
theorem d_Model_check_7 : decode u_Model_check.2.2.1 7 = .ok (.ifCond .ne 7, 3) := by decide +kernel
theorem d_Model_check_10 : decode u_Model_check.2.2.1 10 = .ok (.iconst 1, 1) := by decide +kernel
theorem d_Model_check_11 : decode u_Model_check.2.2.1 11 = .ok (.goto 4, 3) := by decide +kernel
theorem d_Model_check_14 : decode u_Model_check.2.2.1 14 = .ok (.iconst 0, 1) := by decide +kernel
theorem d_Model_check_15 : decode u_Model_check.2.2.1 15 = .ok (.iconst 1, 1) := by decide +kernel
theorem d_Model_check_16 : decode u_Model_check.2.2.1 16 = .ok (.invokevirtual 184, 3) := by decide +kernel
theorem d_Model_check_19 : decode u_Model_check.2.2.1 19 = .ok (.ifCond .ne 36, 3) := by decide +kernel
theorem d_Model_check_22 : decode u_Model_check.2.2.1 22 = .ok (.aload_n 0, 1) := by decide +kernel
theorem d_Model_check_23 : decode u_Model_check.2.2.1 23 = .ok (.iload_n 1, 1) := by decide +kernel
theorem d_Model_check_24 : decode u_Model_check.2.2.1 24 = .ok (.ifCond .lt 12, 3) := by decide +kernel
theorem d_Model_check_27 : decode u_Model_check.2.2.1 27 = .ok (.aload_n 0, 1) := by decide +kernel
theorem d_Model_check_28 : decode u_Model_check.2.2.1 28 = .ok (.getfield 45, 3) := by decide +kernel
theorem d_Model_check_31 : decode u_Model_check.2.2.1 31 = .ok (.iload_n 1, 1) := by decide +kernel
theorem d_Model_check_32 : decode u_Model_check.2.2.1 32 = .ok (.baload, 1) := by decide +kernel
theorem d_Model_check_33 : decode u_Model_check.2.2.1 33 = .ok (.ifCond .eq 10, 3) := by decide +kernel
theorem d_Model_check_36 : decode u_Model_check.2.2.1 36 = .ok (.aload_n 0, 1) := by decide +kernel
theorem d_Model_check_37 : decode u_Model_check.2.2.1 37 = .ok (.invokevirtual 225, 3) := by decide +kernel
theorem d_Model_check_40 : decode u_Model_check.2.2.1 40 = .ok (.ifCond .ne 7, 3) := by decide +kernel
theorem d_Model_check_43 : decode u_Model_check.2.2.1 43 = .ok (.iconst 1, 1) := by decide +kernel
theorem d_Model_check_44 : decode u_Model_check.2.2.1 44 = .ok (.goto 4, 3) := by decide +kernel
theorem d_Model_check_47 : decode u_Model_check.2.2.1 47 = .ok (.iconst 0, 1) := by decide +kernel
theorem d_Model_check_48 : decode u_Model_check.2.2.1 48 = .ok (.iconst 2, 1) := by decide +kernel
theorem d_Model_check_49 : decode u_Model_check.2.2.1 49 = .ok (.invokevirtual 184, 3) := by decide +kernel
theorem d_Model_check_52 : decode u_Model_check.2.2.1 52 = .ok (.ifCond .eq 5, 3) := by decide +kernel
theorem d_Model_check_55 : decode u_Model_check.2.2.1 55 = .ok (.iconst 0, 1) := by decide +kernel
theorem d_Model_check_56 : decode u_Model_check.2.2.1 56 = .ok (.ireturn, 1) := by decide +kernel
theorem d_Model_check_57 : decode u_Model_check.2.2.1 57 = .ok (.aload_n 0, 1) := by decide +kernel
theorem d_Model_check_58 : decode u_Model_check.2.2.1 58 = .ok (.iload_n 1, 1) := by decide +kernel
theorem d_Model_check_59 : decode u_Model_check.2.2.1 59 = .ok (.invokevirtual 229, 3) := by decide +kernel
theorem d_Model_check_62 : decode u_Model_check.2.2.1 62 = .ok (.ireturn, 1) := by decide +kernel
theorem w_Model_check : am_code y_Model_check u_Model_check ∈ am_ws := am_mem (List.mem_of_getElem? (i := 1243) (by decide +kernel)) rfl
def a_Model_check_0 (rc : Nat → Nat → Int32 → Int32 → Nat → Nat → am_M → Option (Int32 × am_M)) (r0 : Nat) (x1 : Int32) (s0 : Int32) (sr0 : Nat) (sr1 : Nat) (M : am_M) : Option (Int32 × am_M) := (q_ob M sr1 10).bind (fun o16 => (f_Model_fails M sr1 s0 (1 : Int32)).bind (fun p16 => if p16.1 = 0 then (if x1 < 0 then (rc 1 r0 x1 0 r0 0 p16.2) else ((q_gtr p16.2 r0 10 12).bind (fun t28 => (q_ldz p16.2 t28 x1).bind (fun t32 => if t32 = 0 then (rc 2 r0 x1 0 r0 0 p16.2) else (rc 1 r0 x1 0 r0 0 p16.2))))) else (some ((0 : Int32), p16.2))))
def a_Model_check_1 (rc : Nat → Nat → Int32 → Int32 → Nat → Nat → am_M → Option (Int32 × am_M)) (r0 : Nat) (x1 : Int32) (s0 : Int32) (sr0 : Nat) (sr1 : Nat) (M : am_M) : Option (Int32 × am_M) := (q_ob M r0 10).bind (fun o37 => (f_Model_isWhole M r0).bind (fun p37 => if p37.1 = 0 then (rc 2 r0 x1 0 sr0 0 p37.2) else (rc 3 r0 x1 (0 : Int32) 0 sr0 p37.2)))
def a_Model_check_2 (rc : Nat → Nat → Int32 → Int32 → Nat → Nat → am_M → Option (Int32 × am_M)) (r0 : Nat) (x1 : Int32) (s0 : Int32) (sr0 : Nat) (sr1 : Nat) (M : am_M) : Option (Int32 × am_M) := rc 3 r0 x1 (1 : Int32) 0 sr0 M
def a_Model_check_3 (rc : Nat → Nat → Int32 → Int32 → Nat → Nat → am_M → Option (Int32 × am_M)) (r0 : Nat) (x1 : Int32) (s0 : Int32) (sr0 : Nat) (sr1 : Nat) (M : am_M) : Option (Int32 × am_M) := (q_ob M sr1 10).bind (fun o49 => (f_Model_fails M sr1 s0 (2 : Int32)).bind (fun p49 => if p49.1 = 0 then ((q_ob p49.2 r0 10).bind (fun o59 => (f_Model_judge p49.2 r0 x1).bind (fun p59 => some (p59.1, p59.2)))) else (some ((0 : Int32), p49.2))))
def g_Model_check : Nat → Nat → Nat → Int32 → Int32 → Nat → Nat → am_M → Option (Int32 × am_M)
  | 0, _, _, _, _, _, _, _ => none
  | F + 1, 0, r0, x1, s0, sr0, sr1, M => a_Model_check_0 (g_Model_check F) r0 x1 s0 sr0 sr1 M
  | F + 1, 1, r0, x1, s0, sr0, sr1, M => a_Model_check_1 (g_Model_check F) r0 x1 s0 sr0 sr1 M
  | F + 1, 2, r0, x1, s0, sr0, sr1, M => a_Model_check_2 (g_Model_check F) r0 x1 s0 sr0 sr1 M
  | F + 1, 3, r0, x1, s0, sr0, sr1, M => a_Model_check_3 (g_Model_check F) r0 x1 s0 sr0 sr1 M
  | _ + 1, _ + 4, _, _, _, _, _, _ => none
def e_Model_check (rc : Nat → Nat → Int32 → Int32 → Nat → Nat → am_M → Option (Int32 × am_M)) (M : am_M) (a0 : Nat) (a1 : Int32) : Option (Int32 × am_M) := (f_Model_within M a1 (-1 : Int32) (3 : Int32)).bind (fun t4 => if t4 = 0 then (rc 0 a0 a1 (1 : Int32) 0 a0 M) else (rc 0 a0 a1 (0 : Int32) 0 a0 M))
def f_Model_check (M : am_M) (a0 : Nat) (a1 : Int32) : Option (Int32 × am_M) := e_Model_check (g_Model_check 1000000000) M a0 a1
theorem kV_Model_229 : am_kV "CrewOfficeModel" 229 10 y_Model_judge u_Model_judge 1 := ⟨List.mem_of_getElem? (i := 1248) (by decide +kernel), ⟨List.mem_of_getElem? (i := 1250) (by decide +kernel), List.mem_of_getElem? (i := 33) (by decide +kernel)⟩, List.mem_of_getElem? (i := 65) (by decide +kernel), w_Model_judge, ⟨⟨by decide +kernel, by decide +kernel⟩, by decide +kernel⟩⟩
set_option maxHeartbeats 4000000 in
theorem s_Model_check_0 {rc : Nat → Nat → Int32 → Int32 → Nat → Nat → am_M → Option (Int32 × am_M)} {res : Int32} {M' : am_M} (ih_0 : ∀ (r0 : Nat) (x1 : Int32) (s0 : Int32) (sr0 : Nat) (sr1 : Nat) (M : am_M), rc 0 r0 x1 s0 sr0 sr1 M = some (res, M') → AW u_Model_check R_Model_check 0 0 15 [(0, .ref r0), (1, .int x1)] [.int s0, .ref sr1] M (fun r M2 => r = .inl (some (.int res)) ∧ M2 = M')) (ih_1 : ∀ (r0 : Nat) (x1 : Int32) (s0 : Int32) (sr0 : Nat) (sr1 : Nat) (M : am_M), rc 1 r0 x1 s0 sr0 sr1 M = some (res, M') → AW u_Model_check R_Model_check 0 0 36 [(0, .ref r0), (1, .int x1)] [.ref sr0] M (fun r M2 => r = .inl (some (.int res)) ∧ M2 = M')) (ih_2 : ∀ (r0 : Nat) (x1 : Int32) (s0 : Int32) (sr0 : Nat) (sr1 : Nat) (M : am_M), rc 2 r0 x1 s0 sr0 sr1 M = some (res, M') → AW u_Model_check R_Model_check 0 0 43 [(0, .ref r0), (1, .int x1)] [.ref sr0] M (fun r M2 => r = .inl (some (.int res)) ∧ M2 = M')) (ih_3 : ∀ (r0 : Nat) (x1 : Int32) (s0 : Int32) (sr0 : Nat) (sr1 : Nat) (M : am_M), rc 3 r0 x1 s0 sr0 sr1 M = some (res, M') → AW u_Model_check R_Model_check 0 0 48 [(0, .ref r0), (1, .int x1)] [.int s0, .ref sr1] M (fun r M2 => r = .inl (some (.int res)) ∧ M2 = M')) : ∀ (r0 : Nat) (x1 : Int32) (s0 : Int32) (sr0 : Nat) (sr1 : Nat) (M : am_M), a_Model_check_0 rc r0 x1 s0 sr0 sr1 M = some (res, M') → AW u_Model_check R_Model_check 0 0 15 [(0, .ref r0), (1, .int x1)] [.int s0, .ref sr1] M (fun r M2 => r = .inl (some (.int res)) ∧ M2 = M') := by
  intro r0 x1 s0 sr0 sr1 M h
  unfold a_Model_check_0 at h
  refine aw_iconst (v := 1) d_Model_check_15 (by decide) ?_
  obtain ⟨o16, e_o16, h⟩ := q_bind h
  obtain ⟨⟨t16, M16⟩, e_t16, h⟩ := q_bind h
  dsimp only at h
  refine aw_cV (v := (some (.int t16))) (As := [.int s0, .int (1 : Int32)]) (rest := []) (st' := [.int t16]) d_Model_check_16 kV_Model_184 (q_ob_spec e_o16).1 (q_ob_spec e_o16).2 ⟨Nat.le_of_ble_eq_true rfl, Nat.le_of_ble_eq_true rfl, Nat.le_of_ble_eq_true rfl, Nat.le_of_ble_eq_true rfl⟩ rfl rfl (Nat.le_of_ble_eq_true rfl) rfl (mt_Model_fails e_t16) ?_
  refine aw_if_ne (tgt := 55) d_Model_check_19 (by decide) (fun hc => ?_) (fun hc => ?_)
  · rw [if_neg hc] at h
    refine aw_iconst (v := 0) d_Model_check_55 (by decide) ?_
    cases h
    exact aw_ireturn d_Model_check_56 rfl (Nat.le_of_ble_eq_true rfl) (Nat.le_of_ble_eq_true rfl) ⟨rfl, rfl⟩
  · rw [if_pos hc] at h
    refine aw_aload_n d_Model_check_22 rfl rfl ?_
    refine aw_iload_n d_Model_check_23 rfl rfl ?_
    refine aw_if_lt (tgt := 36) d_Model_check_24 (by decide) (fun hc => ?_) (fun hc => ?_)
    · rw [if_pos hc] at h
      exact aw_pick [0, 1] rfl (ih_1 _ _ _ _ _ _ h)
    · rw [if_neg hc] at h
      refine aw_aload_n d_Model_check_27 rfl rfl ?_
      obtain ⟨t28, e_t28, h⟩ := q_bind h
      refine aw_gtr d_Model_check_28 fl_Model_45 (Or.inr ⟨_, rfl⟩) e_t28 ?_
      refine aw_iload_n d_Model_check_31 rfl rfl ?_
      obtain ⟨t32, e_t32, h⟩ := q_bind h
      refine aw_ldz d_Model_check_32 e_t32 ?_
      refine aw_if_eq (tgt := 43) d_Model_check_33 (by decide) (fun hc => ?_) (fun hc => ?_)
      · rw [if_pos hc] at h
        exact aw_pick [0, 1] rfl (ih_2 _ _ _ _ _ _ h)
      · rw [if_neg hc] at h
        exact aw_pick [0, 1] rfl (ih_1 _ _ _ _ _ _ h)
set_option maxHeartbeats 4000000 in
theorem s_Model_check_1 {rc : Nat → Nat → Int32 → Int32 → Nat → Nat → am_M → Option (Int32 × am_M)} {res : Int32} {M' : am_M} (ih_0 : ∀ (r0 : Nat) (x1 : Int32) (s0 : Int32) (sr0 : Nat) (sr1 : Nat) (M : am_M), rc 0 r0 x1 s0 sr0 sr1 M = some (res, M') → AW u_Model_check R_Model_check 0 0 15 [(0, .ref r0), (1, .int x1)] [.int s0, .ref sr1] M (fun r M2 => r = .inl (some (.int res)) ∧ M2 = M')) (ih_1 : ∀ (r0 : Nat) (x1 : Int32) (s0 : Int32) (sr0 : Nat) (sr1 : Nat) (M : am_M), rc 1 r0 x1 s0 sr0 sr1 M = some (res, M') → AW u_Model_check R_Model_check 0 0 36 [(0, .ref r0), (1, .int x1)] [.ref sr0] M (fun r M2 => r = .inl (some (.int res)) ∧ M2 = M')) (ih_2 : ∀ (r0 : Nat) (x1 : Int32) (s0 : Int32) (sr0 : Nat) (sr1 : Nat) (M : am_M), rc 2 r0 x1 s0 sr0 sr1 M = some (res, M') → AW u_Model_check R_Model_check 0 0 43 [(0, .ref r0), (1, .int x1)] [.ref sr0] M (fun r M2 => r = .inl (some (.int res)) ∧ M2 = M')) (ih_3 : ∀ (r0 : Nat) (x1 : Int32) (s0 : Int32) (sr0 : Nat) (sr1 : Nat) (M : am_M), rc 3 r0 x1 s0 sr0 sr1 M = some (res, M') → AW u_Model_check R_Model_check 0 0 48 [(0, .ref r0), (1, .int x1)] [.int s0, .ref sr1] M (fun r M2 => r = .inl (some (.int res)) ∧ M2 = M')) : ∀ (r0 : Nat) (x1 : Int32) (s0 : Int32) (sr0 : Nat) (sr1 : Nat) (M : am_M), a_Model_check_1 rc r0 x1 s0 sr0 sr1 M = some (res, M') → AW u_Model_check R_Model_check 0 0 36 [(0, .ref r0), (1, .int x1)] [.ref sr0] M (fun r M2 => r = .inl (some (.int res)) ∧ M2 = M') := by
  intro r0 x1 s0 sr0 sr1 M h
  unfold a_Model_check_1 at h
  refine aw_aload_n d_Model_check_36 rfl rfl ?_
  obtain ⟨o37, e_o37, h⟩ := q_bind h
  obtain ⟨⟨t37, M37⟩, e_t37, h⟩ := q_bind h
  dsimp only at h
  refine aw_cV (v := (some (.int t37))) (As := []) (rest := [.ref sr0]) (st' := [.int t37, .ref sr0]) d_Model_check_37 kV_Model_225 (q_ob_spec e_o37).1 (q_ob_spec e_o37).2 ⟨Nat.le_of_ble_eq_true rfl, Nat.le_of_ble_eq_true rfl, Nat.le_of_ble_eq_true rfl, Nat.le_of_ble_eq_true rfl⟩ rfl rfl (Nat.le_of_ble_eq_true rfl) rfl (mt_Model_isWhole e_t37) ?_
  refine aw_if_ne (tgt := 47) d_Model_check_40 (by decide) (fun hc => ?_) (fun hc => ?_)
  · rw [if_neg hc] at h
    refine aw_iconst (v := 0) d_Model_check_47 (by decide) ?_
    exact aw_pick [0, 1] rfl (ih_3 _ _ _ _ _ _ h)
  · rw [if_pos hc] at h
    exact aw_pick [0, 1] rfl (ih_2 _ _ _ _ _ _ h)
set_option maxHeartbeats 4000000 in
theorem s_Model_check_2 {rc : Nat → Nat → Int32 → Int32 → Nat → Nat → am_M → Option (Int32 × am_M)} {res : Int32} {M' : am_M} (ih_0 : ∀ (r0 : Nat) (x1 : Int32) (s0 : Int32) (sr0 : Nat) (sr1 : Nat) (M : am_M), rc 0 r0 x1 s0 sr0 sr1 M = some (res, M') → AW u_Model_check R_Model_check 0 0 15 [(0, .ref r0), (1, .int x1)] [.int s0, .ref sr1] M (fun r M2 => r = .inl (some (.int res)) ∧ M2 = M')) (ih_1 : ∀ (r0 : Nat) (x1 : Int32) (s0 : Int32) (sr0 : Nat) (sr1 : Nat) (M : am_M), rc 1 r0 x1 s0 sr0 sr1 M = some (res, M') → AW u_Model_check R_Model_check 0 0 36 [(0, .ref r0), (1, .int x1)] [.ref sr0] M (fun r M2 => r = .inl (some (.int res)) ∧ M2 = M')) (ih_2 : ∀ (r0 : Nat) (x1 : Int32) (s0 : Int32) (sr0 : Nat) (sr1 : Nat) (M : am_M), rc 2 r0 x1 s0 sr0 sr1 M = some (res, M') → AW u_Model_check R_Model_check 0 0 43 [(0, .ref r0), (1, .int x1)] [.ref sr0] M (fun r M2 => r = .inl (some (.int res)) ∧ M2 = M')) (ih_3 : ∀ (r0 : Nat) (x1 : Int32) (s0 : Int32) (sr0 : Nat) (sr1 : Nat) (M : am_M), rc 3 r0 x1 s0 sr0 sr1 M = some (res, M') → AW u_Model_check R_Model_check 0 0 48 [(0, .ref r0), (1, .int x1)] [.int s0, .ref sr1] M (fun r M2 => r = .inl (some (.int res)) ∧ M2 = M')) : ∀ (r0 : Nat) (x1 : Int32) (s0 : Int32) (sr0 : Nat) (sr1 : Nat) (M : am_M), a_Model_check_2 rc r0 x1 s0 sr0 sr1 M = some (res, M') → AW u_Model_check R_Model_check 0 0 43 [(0, .ref r0), (1, .int x1)] [.ref sr0] M (fun r M2 => r = .inl (some (.int res)) ∧ M2 = M') := by
  intro r0 x1 s0 sr0 sr1 M h
  unfold a_Model_check_2 at h
  refine aw_iconst (v := 1) d_Model_check_43 (by decide) ?_
  refine aw_goto (tgt := 48) d_Model_check_44 (by decide) ?_
  exact aw_pick [0, 1] rfl (ih_3 _ _ _ _ _ _ h)
set_option maxHeartbeats 4000000 in
theorem s_Model_check_3 {rc : Nat → Nat → Int32 → Int32 → Nat → Nat → am_M → Option (Int32 × am_M)} {res : Int32} {M' : am_M} (ih_0 : ∀ (r0 : Nat) (x1 : Int32) (s0 : Int32) (sr0 : Nat) (sr1 : Nat) (M : am_M), rc 0 r0 x1 s0 sr0 sr1 M = some (res, M') → AW u_Model_check R_Model_check 0 0 15 [(0, .ref r0), (1, .int x1)] [.int s0, .ref sr1] M (fun r M2 => r = .inl (some (.int res)) ∧ M2 = M')) (ih_1 : ∀ (r0 : Nat) (x1 : Int32) (s0 : Int32) (sr0 : Nat) (sr1 : Nat) (M : am_M), rc 1 r0 x1 s0 sr0 sr1 M = some (res, M') → AW u_Model_check R_Model_check 0 0 36 [(0, .ref r0), (1, .int x1)] [.ref sr0] M (fun r M2 => r = .inl (some (.int res)) ∧ M2 = M')) (ih_2 : ∀ (r0 : Nat) (x1 : Int32) (s0 : Int32) (sr0 : Nat) (sr1 : Nat) (M : am_M), rc 2 r0 x1 s0 sr0 sr1 M = some (res, M') → AW u_Model_check R_Model_check 0 0 43 [(0, .ref r0), (1, .int x1)] [.ref sr0] M (fun r M2 => r = .inl (some (.int res)) ∧ M2 = M')) (ih_3 : ∀ (r0 : Nat) (x1 : Int32) (s0 : Int32) (sr0 : Nat) (sr1 : Nat) (M : am_M), rc 3 r0 x1 s0 sr0 sr1 M = some (res, M') → AW u_Model_check R_Model_check 0 0 48 [(0, .ref r0), (1, .int x1)] [.int s0, .ref sr1] M (fun r M2 => r = .inl (some (.int res)) ∧ M2 = M')) : ∀ (r0 : Nat) (x1 : Int32) (s0 : Int32) (sr0 : Nat) (sr1 : Nat) (M : am_M), a_Model_check_3 rc r0 x1 s0 sr0 sr1 M = some (res, M') → AW u_Model_check R_Model_check 0 0 48 [(0, .ref r0), (1, .int x1)] [.int s0, .ref sr1] M (fun r M2 => r = .inl (some (.int res)) ∧ M2 = M') := by
  intro r0 x1 s0 sr0 sr1 M h
  unfold a_Model_check_3 at h
  refine aw_iconst (v := 2) d_Model_check_48 (by decide) ?_
  obtain ⟨o49, e_o49, h⟩ := q_bind h
  obtain ⟨⟨t49, M49⟩, e_t49, h⟩ := q_bind h
  dsimp only at h
  refine aw_cV (v := (some (.int t49))) (As := [.int s0, .int (2 : Int32)]) (rest := []) (st' := [.int t49]) d_Model_check_49 kV_Model_184 (q_ob_spec e_o49).1 (q_ob_spec e_o49).2 ⟨Nat.le_of_ble_eq_true rfl, Nat.le_of_ble_eq_true rfl, Nat.le_of_ble_eq_true rfl, Nat.le_of_ble_eq_true rfl⟩ rfl rfl (Nat.le_of_ble_eq_true rfl) rfl (mt_Model_fails e_t49) ?_
  refine aw_if_eq (tgt := 57) d_Model_check_52 (by decide) (fun hc => ?_) (fun hc => ?_)
  · rw [if_pos hc] at h
    refine aw_aload_n d_Model_check_57 rfl rfl ?_
    refine aw_iload_n d_Model_check_58 rfl rfl ?_
    obtain ⟨o59, e_o59, h⟩ := q_bind h
    obtain ⟨⟨t59, M59⟩, e_t59, h⟩ := q_bind h
    dsimp only at h
    refine aw_cV (v := (some (.int t59))) (As := [.int x1]) (rest := []) (st' := [.int t59]) d_Model_check_59 kV_Model_229 (q_ob_spec e_o59).1 (q_ob_spec e_o59).2 ⟨Nat.le_of_ble_eq_true rfl, Nat.le_of_ble_eq_true rfl, Nat.le_of_ble_eq_true rfl, Nat.le_of_ble_eq_true rfl⟩ rfl rfl (Nat.le_of_ble_eq_true rfl) rfl (mt_Model_judge e_t59) ?_
    cases h
    exact aw_ireturn d_Model_check_62 rfl (Nat.le_of_ble_eq_true rfl) (Nat.le_of_ble_eq_true rfl) ⟨rfl, rfl⟩
  · rw [if_neg hc] at h
    refine aw_iconst (v := 0) d_Model_check_55 (by decide) ?_
    cases h
    exact aw_ireturn d_Model_check_56 rfl (Nat.le_of_ble_eq_true rfl) (Nat.le_of_ble_eq_true rfl) ⟨rfl, rfl⟩
theorem l_Model_check {res : Int32} {M' : am_M} : ∀ F : Nat, (∀ (r0 : Nat) (x1 : Int32) (s0 : Int32) (sr0 : Nat) (sr1 : Nat) (M : am_M), g_Model_check F 0 r0 x1 s0 sr0 sr1 M = some (res, M') → AW u_Model_check R_Model_check 0 0 15 [(0, .ref r0), (1, .int x1)] [.int s0, .ref sr1] M (fun r M2 => r = .inl (some (.int res)) ∧ M2 = M')) ∧ (∀ (r0 : Nat) (x1 : Int32) (s0 : Int32) (sr0 : Nat) (sr1 : Nat) (M : am_M), g_Model_check F 1 r0 x1 s0 sr0 sr1 M = some (res, M') → AW u_Model_check R_Model_check 0 0 36 [(0, .ref r0), (1, .int x1)] [.ref sr0] M (fun r M2 => r = .inl (some (.int res)) ∧ M2 = M')) ∧ (∀ (r0 : Nat) (x1 : Int32) (s0 : Int32) (sr0 : Nat) (sr1 : Nat) (M : am_M), g_Model_check F 2 r0 x1 s0 sr0 sr1 M = some (res, M') → AW u_Model_check R_Model_check 0 0 43 [(0, .ref r0), (1, .int x1)] [.ref sr0] M (fun r M2 => r = .inl (some (.int res)) ∧ M2 = M')) ∧ (∀ (r0 : Nat) (x1 : Int32) (s0 : Int32) (sr0 : Nat) (sr1 : Nat) (M : am_M), g_Model_check F 3 r0 x1 s0 sr0 sr1 M = some (res, M') → AW u_Model_check R_Model_check 0 0 48 [(0, .ref r0), (1, .int x1)] [.int s0, .ref sr1] M (fun r M2 => r = .inl (some (.int res)) ∧ M2 = M')) := by
  intro F
  induction F with
  | zero => exact ⟨fun _ _ _ _ _ _  h => (by cases h), fun _ _ _ _ _ _  h => (by cases h), fun _ _ _ _ _ _  h => (by cases h), fun _ _ _ _ _ _  h => (by cases h)⟩
  | succ F ih =>
    obtain ⟨ih0, ih1, ih2, ih3⟩ := ih
    exact ⟨s_Model_check_0 ih0 ih1 ih2 ih3, s_Model_check_1 ih0 ih1 ih2 ih3, s_Model_check_2 ih0 ih1 ih2 ih3, s_Model_check_3 ih0 ih1 ih2 ih3⟩
set_option maxHeartbeats 4000000 in
theorem mt_Model_check {M : am_M} {a0 : Nat} {a1 : Int32} {res : Int32} {M' : am_M} (h : f_Model_check M a0 a1 = some (res, M')) : AMet y_Model_check u_Model_check R_Model_check [.ref a0, .int a1] M (fun r M2 => r = .inl (some (.int res)) ∧ M2 = M') := by
  refine am_met (by decide +kernel) w_Model_check rfl rfl (Nat.le_of_ble_eq_true rfl) ?_
  show AW u_Model_check R_Model_check 0 0 0 [(0, .ref a0), (1, .int a1)] [] M (fun r M2 => r = .inl (some (.int res)) ∧ M2 = M')
  have ih_0 := (l_Model_check (res := res) (M' := M') 1000000000).1
  have ih_1 := (l_Model_check (res := res) (M' := M') 1000000000).2.1
  have ih_2 := (l_Model_check (res := res) (M' := M') 1000000000).2.2.1
  have ih_3 := (l_Model_check (res := res) (M' := M') 1000000000).2.2.2
  unfold f_Model_check at h
  unfold e_Model_check at h
  generalize g_Model_check 1000000000 = rc at h ih_0 ih_1 ih_2 ih_3
  refine aw_aload_n d_Model_check_0 rfl rfl ?_
  refine aw_iload_n d_Model_check_1 rfl rfl ?_
  refine aw_iconst (v := -1) d_Model_check_2 (by decide) ?_
  refine aw_iconst (v := 3) d_Model_check_3 (by decide) ?_
  obtain ⟨t4, e_t4, h⟩ := q_bind h
  refine aw_cS (v := (some (.int t4))) (As := [.int a1, .int (-1 : Int32), .int (3 : Int32)]) (rest := [.ref a0]) (st' := [.int t4, .ref a0]) d_Model_check_4 kS_Model_180 ⟨Nat.le_of_ble_eq_true rfl, Nat.le_of_ble_eq_true rfl, Nat.le_of_ble_eq_true rfl, Nat.le_of_ble_eq_true rfl⟩ rfl rfl (Nat.le_of_ble_eq_true rfl) rfl (mt_Model_within e_t4) ?_
  refine aw_if_ne (tgt := 14) d_Model_check_7 (by decide) (fun hc => ?_) (fun hc => ?_)
  · rw [if_neg hc] at h
    refine aw_iconst (v := 0) d_Model_check_14 (by decide) ?_
    exact aw_pick [0, 1] rfl (ih_0 _ _ _ _ _ _ h)
  · rw [if_pos hc] at h
    refine aw_iconst (v := 1) d_Model_check_10 (by decide) ?_
    refine aw_goto (tgt := 15) d_Model_check_11 (by decide) ?_
    exact aw_pick [0, 1] rfl (ih_0 _ _ _ _ _ _ h)
def y_Model_cover : MethodName := ⟨"CrewOfficeModel", "cover", "()I"⟩
def u_Model_cover : am_U := ("CrewOfficeModel", "cover", prog_12_method_39_code, 9, (some .int), [])
def R_Model_cover : Room := { frames := 2, cells := 0, slots := 0, locals := 42 }
theorem d_Model_cover_0 : decode u_Model_cover.2.2.1 0 = .ok (.aload_n 0, 1) := by decide +kernel
theorem d_Model_cover_1 : decode u_Model_cover.2.2.1 1 = .ok (.iconst 0, 1) := by decide +kernel
theorem d_Model_cover_2 : decode u_Model_cover.2.2.1 2 = .ok (.putfield 155, 3) := by decide +kernel
theorem d_Model_cover_5 : decode u_Model_cover.2.2.1 5 = .ok (.aload_n 0, 1) := by decide +kernel
theorem d_Model_cover_6 : decode u_Model_cover.2.2.1 6 = .ok (.invokevirtual 158, 3) := by decide +kernel
theorem d_Model_cover_9 : decode u_Model_cover.2.2.1 9 = .ok (.aload_n 0, 1) := by decide +kernel
theorem d_Model_cover_10 : decode u_Model_cover.2.2.1 10 = .ok (.getfield 102, 3) := by decide +kernel
theorem d_Model_cover_13 : decode u_Model_cover.2.2.1 13 = .ok (.ifCond .ge 5, 3) := by decide +kernel
theorem d_Model_cover_16 : decode u_Model_cover.2.2.1 16 = .ok (.iconst (-1), 1) := by decide +kernel
theorem d_Model_cover_17 : decode u_Model_cover.2.2.1 17 = .ok (.ireturn, 1) := by decide +kernel
theorem d_Model_cover_18 : decode u_Model_cover.2.2.1 18 = .ok (.iconst 0, 1) := by decide +kernel
theorem d_Model_cover_19 : decode u_Model_cover.2.2.1 19 = .ok (.istore_n 1, 1) := by decide +kernel
theorem d_Model_cover_20 : decode u_Model_cover.2.2.1 20 = .ok (.iconst 0, 1) := by decide +kernel
theorem d_Model_cover_21 : decode u_Model_cover.2.2.1 21 = .ok (.istore_n 2, 1) := by decide +kernel
theorem d_Model_cover_22 : decode u_Model_cover.2.2.1 22 = .ok (.iload_n 2, 1) := by decide +kernel
theorem d_Model_cover_23 : decode u_Model_cover.2.2.1 23 = .ok (.bipush 12, 2) := by decide +kernel
theorem d_Model_cover_25 : decode u_Model_cover.2.2.1 25 = .ok (.if_icmp .ge 28, 3) := by decide +kernel
theorem d_Model_cover_28 : decode u_Model_cover.2.2.1 28 = .ok (.iload_n 1, 1) := by decide +kernel
theorem d_Model_cover_29 : decode u_Model_cover.2.2.1 29 = .ok (.aload_n 0, 1) := by decide +kernel
theorem d_Model_cover_30 : decode u_Model_cover.2.2.1 30 = .ok (.getfield 27, 3) := by decide +kernel
theorem d_Model_cover_33 : decode u_Model_cover.2.2.1 33 = .ok (.iload_n 2, 1) := by decide +kernel
theorem d_Model_cover_34 : decode u_Model_cover.2.2.1 34 = .ok (.baload, 1) := by decide +kernel
theorem d_Model_cover_35 : decode u_Model_cover.2.2.1 35 = .ok (.ifCond .eq 9, 3) := by decide +kernel
theorem d_Model_cover_38 : decode u_Model_cover.2.2.1 38 = .ok (.iconst 1, 1) := by decide +kernel
theorem d_Model_cover_39 : decode u_Model_cover.2.2.1 39 = .ok (.iload_n 2, 1) := by decide +kernel
theorem d_Model_cover_40 : decode u_Model_cover.2.2.1 40 = .ok (.ishl, 1) := by decide +kernel
theorem d_Model_cover_41 : decode u_Model_cover.2.2.1 41 = .ok (.goto 4, 3) := by decide +kernel
theorem d_Model_cover_44 : decode u_Model_cover.2.2.1 44 = .ok (.iconst 0, 1) := by decide +kernel
theorem d_Model_cover_45 : decode u_Model_cover.2.2.1 45 = .ok (.ior, 1) := by decide +kernel
theorem d_Model_cover_46 : decode u_Model_cover.2.2.1 46 = .ok (.istore_n 1, 1) := by decide +kernel
theorem d_Model_cover_47 : decode u_Model_cover.2.2.1 47 = .ok (.iinc 2 1, 3) := by decide +kernel
theorem d_Model_cover_50 : decode u_Model_cover.2.2.1 50 = .ok (.goto (-28), 3) := by decide +kernel
theorem d_Model_cover_53 : decode u_Model_cover.2.2.1 53 = .ok (.iconst 0, 1) := by decide +kernel
theorem d_Model_cover_54 : decode u_Model_cover.2.2.1 54 = .ok (.istore_n 2, 1) := by decide +kernel
theorem d_Model_cover_55 : decode u_Model_cover.2.2.1 55 = .ok (.iload_n 2, 1) := by decide +kernel
theorem d_Model_cover_56 : decode u_Model_cover.2.2.1 56 = .ok (.sipush 4096, 3) := by decide +kernel
theorem d_Model_cover_59 : decode u_Model_cover.2.2.1 59 = .ok (.if_icmp .ge 26, 3) := by decide +kernel
theorem d_Model_cover_62 : decode u_Model_cover.2.2.1 62 = .ok (.aload_n 0, 1) := by decide +kernel
theorem d_Model_cover_63 : decode u_Model_cover.2.2.1 63 = .ok (.getfield 130, 3) := by decide +kernel
theorem d_Model_cover_66 : decode u_Model_cover.2.2.1 66 = .ok (.iload_n 2, 1) := by decide +kernel
theorem d_Model_cover_67 : decode u_Model_cover.2.2.1 67 = .ok (.iload_n 2, 1) := by decide +kernel
theorem d_Model_cover_68 : decode u_Model_cover.2.2.1 68 = .ok (.ifCond .ne 7, 3) := by decide +kernel
theorem d_Model_cover_71 : decode u_Model_cover.2.2.1 71 = .ok (.lconst 0, 1) := by decide +kernel
theorem d_Model_cover_72 : decode u_Model_cover.2.2.1 72 = .ok (.goto 6, 3) := by decide +kernel
theorem d_Model_cover_75 : decode u_Model_cover.2.2.1 75 = .ok (.ldc2_w 246, 3) := by decide +kernel
theorem d_Model_cover_78 : decode u_Model_cover.2.2.1 78 = .ok (.lastore, 1) := by decide +kernel
theorem d_Model_cover_79 : decode u_Model_cover.2.2.1 79 = .ok (.iinc 2 1, 3) := by decide +kernel
theorem d_Model_cover_82 : decode u_Model_cover.2.2.1 82 = .ok (.goto (-27), 3) := by decide +kernel
theorem d_Model_cover_85 : decode u_Model_cover.2.2.1 85 = .ok (.aload_n 0, 1) := by decide +kernel
theorem d_Model_cover_86 : decode u_Model_cover.2.2.1 86 = .ok (.getfield 137, 3) := by decide +kernel
theorem d_Model_cover_89 : decode u_Model_cover.2.2.1 89 = .ok (.iconst 0, 1) := by decide +kernel
theorem d_Model_cover_90 : decode u_Model_cover.2.2.1 90 = .ok (.lconst 0, 1) := by decide +kernel
theorem d_Model_cover_91 : decode u_Model_cover.2.2.1 91 = .ok (.lastore, 1) := by decide +kernel
theorem d_Model_cover_92 : decode u_Model_cover.2.2.1 92 = .ok (.iconst 0, 1) := by decide +kernel
theorem d_Model_cover_93 : decode u_Model_cover.2.2.1 93 = .ok (.istore_n 2, 1) := by decide +kernel
theorem d_Model_cover_94 : decode u_Model_cover.2.2.1 94 = .ok (.iload_n 2, 1) := by decide +kernel
theorem d_Model_cover_95 : decode u_Model_cover.2.2.1 95 = .ok (.aload_n 0, 1) := by decide +kernel
theorem d_Model_cover_96 : decode u_Model_cover.2.2.1 96 = .ok (.getfield 102, 3) := by decide +kernel
theorem d_Model_cover_99 : decode u_Model_cover.2.2.1 99 = .ok (.if_icmp .ge 258, 3) := by decide +kernel
theorem d_Model_cover_102 : decode u_Model_cover.2.2.1 102 = .ok (.iconst 0, 1) := by decide +kernel
theorem d_Model_cover_103 : decode u_Model_cover.2.2.1 103 = .ok (.istore_n 3, 1) := by decide +kernel
theorem d_Model_cover_104 : decode u_Model_cover.2.2.1 104 = .ok (.iload_n 3, 1) := by decide +kernel
theorem d_Model_cover_105 : decode u_Model_cover.2.2.1 105 = .ok (.sipush 4096, 3) := by decide +kernel
theorem d_Model_cover_108 : decode u_Model_cover.2.2.1 108 = .ok (.if_icmp .ge 33, 3) := by decide +kernel
theorem d_Model_cover_111 : decode u_Model_cover.2.2.1 111 = .ok (.aload_n 0, 1) := by decide +kernel
theorem d_Model_cover_112 : decode u_Model_cover.2.2.1 112 = .ok (.getfield 134, 3) := by decide +kernel
theorem d_Model_cover_115 : decode u_Model_cover.2.2.1 115 = .ok (.iload_n 3, 1) := by decide +kernel
theorem d_Model_cover_116 : decode u_Model_cover.2.2.1 116 = .ok (.aload_n 0, 1) := by decide +kernel
theorem d_Model_cover_117 : decode u_Model_cover.2.2.1 117 = .ok (.getfield 130, 3) := by decide +kernel
theorem d_Model_cover_120 : decode u_Model_cover.2.2.1 120 = .ok (.iload_n 3, 1) := by decide +kernel
theorem d_Model_cover_121 : decode u_Model_cover.2.2.1 121 = .ok (.laload, 1) := by decide +kernel
theorem d_Model_cover_122 : decode u_Model_cover.2.2.1 122 = .ok (.lastore, 1) := by decide +kernel
theorem d_Model_cover_123 : decode u_Model_cover.2.2.1 123 = .ok (.aload_n 0, 1) := by decide +kernel
theorem d_Model_cover_124 : decode u_Model_cover.2.2.1 124 = .ok (.getfield 140, 3) := by decide +kernel
theorem d_Model_cover_127 : decode u_Model_cover.2.2.1 127 = .ok (.iload_n 3, 1) := by decide +kernel
theorem d_Model_cover_128 : decode u_Model_cover.2.2.1 128 = .ok (.aload_n 0, 1) := by decide +kernel
theorem d_Model_cover_129 : decode u_Model_cover.2.2.1 129 = .ok (.getfield 137, 3) := by decide +kernel
theorem d_Model_cover_132 : decode u_Model_cover.2.2.1 132 = .ok (.iload_n 3, 1) := by decide +kernel
theorem d_Model_cover_133 : decode u_Model_cover.2.2.1 133 = .ok (.laload, 1) := by decide +kernel
theorem d_Model_cover_134 : decode u_Model_cover.2.2.1 134 = .ok (.lastore, 1) := by decide +kernel
theorem d_Model_cover_135 : decode u_Model_cover.2.2.1 135 = .ok (.iinc 3 1, 3) := by decide +kernel
theorem d_Model_cover_138 : decode u_Model_cover.2.2.1 138 = .ok (.goto (-34), 3) := by decide +kernel
theorem d_Model_cover_141 : decode u_Model_cover.2.2.1 141 = .ok (.iconst 0, 1) := by decide +kernel
theorem d_Model_cover_142 : decode u_Model_cover.2.2.1 142 = .ok (.istore_n 3, 1) := by decide +kernel
theorem d_Model_cover_143 : decode u_Model_cover.2.2.1 143 = .ok (.iload_n 3, 1) := by decide +kernel
theorem d_Model_cover_144 : decode u_Model_cover.2.2.1 144 = .ok (.sipush 4096, 3) := by decide +kernel
theorem d_Model_cover_147 : decode u_Model_cover.2.2.1 147 = .ok (.if_icmp .ge 165, 3) := by decide +kernel
theorem d_Model_cover_150 : decode u_Model_cover.2.2.1 150 = .ok (.aload_n 0, 1) := by decide +kernel
theorem d_Model_cover_151 : decode u_Model_cover.2.2.1 151 = .ok (.getfield 130, 3) := by decide +kernel
theorem d_Model_cover_154 : decode u_Model_cover.2.2.1 154 = .ok (.iload_n 3, 1) := by decide +kernel
theorem d_Model_cover_155 : decode u_Model_cover.2.2.1 155 = .ok (.laload, 1) := by decide +kernel
theorem d_Model_cover_156 : decode u_Model_cover.2.2.1 156 = .ok (.lconst 0, 1) := by decide +kernel
theorem d_Model_cover_157 : decode u_Model_cover.2.2.1 157 = .ok (.lcmp, 1) := by decide +kernel
theorem d_Model_cover_158 : decode u_Model_cover.2.2.1 158 = .ok (.ifCond .ge 6, 3) := by decide +kernel
theorem d_Model_cover_161 : decode u_Model_cover.2.2.1 161 = .ok (.goto 145, 3) := by decide +kernel
theorem d_Model_cover_164 : decode u_Model_cover.2.2.1 164 = .ok (.iload_n 3, 1) := by decide +kernel
theorem d_Model_cover_165 : decode u_Model_cover.2.2.1 165 = .ok (.aload_n 0, 1) := by decide +kernel
theorem d_Model_cover_166 : decode u_Model_cover.2.2.1 166 = .ok (.getfield 121, 3) := by decide +kernel
theorem d_Model_cover_169 : decode u_Model_cover.2.2.1 169 = .ok (.iload_n 2, 1) := by decide +kernel
theorem d_Model_cover_170 : decode u_Model_cover.2.2.1 170 = .ok (.iaload, 1) := by decide +kernel
theorem d_Model_cover_171 : decode u_Model_cover.2.2.1 171 = .ok (.ior, 1) := by decide +kernel
theorem d_Model_cover_172 : decode u_Model_cover.2.2.1 172 = .ok (.istore 4, 2) := by decide +kernel
theorem d_Model_cover_174 : decode u_Model_cover.2.2.1 174 = .ok (.aload_n 0, 1) := by decide +kernel
theorem d_Model_cover_175 : decode u_Model_cover.2.2.1 175 = .ok (.getfield 130, 3) := by decide +kernel
theorem d_Model_cover_178 : decode u_Model_cover.2.2.1 178 = .ok (.iload_n 3, 1) := by decide +kernel
theorem d_Model_cover_179 : decode u_Model_cover.2.2.1 179 = .ok (.laload, 1) := by decide +kernel
theorem d_Model_cover_180 : decode u_Model_cover.2.2.1 180 = .ok (.aload_n 0, 1) := by decide +kernel
theorem d_Model_cover_181 : decode u_Model_cover.2.2.1 181 = .ok (.getfield 115, 3) := by decide +kernel
theorem d_Model_cover_184 : decode u_Model_cover.2.2.1 184 = .ok (.iload_n 2, 1) := by decide +kernel
theorem d_Model_cover_185 : decode u_Model_cover.2.2.1 185 = .ok (.iaload, 1) := by decide +kernel
theorem d_Model_cover_186 : decode u_Model_cover.2.2.1 186 = .ok (.i2l, 1) := by decide +kernel
theorem d_Model_cover_187 : decode u_Model_cover.2.2.1 187 = .ok (.ladd, 1) := by decide +kernel
theorem d_Model_cover_188 : decode u_Model_cover.2.2.1 188 = .ok (.aload_n 0, 1) := by decide +kernel
theorem d_Model_cover_189 : decode u_Model_cover.2.2.1 189 = .ok (.getfield 112, 3) := by decide +kernel
theorem d_Model_cover_192 : decode u_Model_cover.2.2.1 192 = .ok (.iload_n 2, 1) := by decide +kernel
theorem d_Model_cover_193 : decode u_Model_cover.2.2.1 193 = .ok (.iaload, 1) := by decide +kernel
theorem d_Model_cover_194 : decode u_Model_cover.2.2.1 194 = .ok (.i2l, 1) := by decide +kernel
theorem d_Model_cover_195 : decode u_Model_cover.2.2.1 195 = .ok (.lsub, 1) := by decide +kernel
theorem d_Model_cover_196 : decode u_Model_cover.2.2.1 196 = .ok (.aload_n 0, 1) := by decide +kernel
theorem d_Model_cover_197 : decode u_Model_cover.2.2.1 197 = .ok (.getfield 78, 3) := by decide +kernel
theorem d_Model_cover_200 : decode u_Model_cover.2.2.1 200 = .ok (.bipush 8, 2) := by decide +kernel
theorem d_Model_cover_202 : decode u_Model_cover.2.2.1 202 = .ok (.iaload, 1) := by decide +kernel
theorem d_Model_cover_203 : decode u_Model_cover.2.2.1 203 = .ok (.i2l, 1) := by decide +kernel
theorem d_Model_cover_204 : decode u_Model_cover.2.2.1 204 = .ok (.iload_n 3, 1) := by decide +kernel
theorem d_Model_cover_205 : decode u_Model_cover.2.2.1 205 = .ok (.aload_n 0, 1) := by decide +kernel
theorem d_Model_cover_206 : decode u_Model_cover.2.2.1 206 = .ok (.getfield 121, 3) := by decide +kernel
theorem d_Model_cover_209 : decode u_Model_cover.2.2.1 209 = .ok (.iload_n 2, 1) := by decide +kernel
theorem d_Model_cover_210 : decode u_Model_cover.2.2.1 210 = .ok (.iaload, 1) := by decide +kernel
theorem d_Model_cover_211 : decode u_Model_cover.2.2.1 211 = .ok (.iand, 1) := by decide +kernel
theorem d_Model_cover_212 : decode u_Model_cover.2.2.1 212 = .ok (.invokestatic 232, 3) := by decide +kernel
theorem d_Model_cover_215 : decode u_Model_cover.2.2.1 215 = .ok (.i2l, 1) := by decide +kernel
theorem d_Model_cover_216 : decode u_Model_cover.2.2.1 216 = .ok (.lmul, 1) := by decide +kernel
theorem d_Model_cover_217 : decode u_Model_cover.2.2.1 217 = .ok (.ladd, 1) := by decide +kernel
theorem d_Model_cover_218 : decode u_Model_cover.2.2.1 218 = .ok (.lstore 5, 2) := by decide +kernel
theorem d_Model_cover_220 : decode u_Model_cover.2.2.1 220 = .ok (.aload_n 0, 1) := by decide +kernel
theorem d_Model_cover_221 : decode u_Model_cover.2.2.1 221 = .ok (.getfield 137, 3) := by decide +kernel
theorem d_Model_cover_224 : decode u_Model_cover.2.2.1 224 = .ok (.iload_n 3, 1) := by decide +kernel
theorem d_Model_cover_225 : decode u_Model_cover.2.2.1 225 = .ok (.laload, 1) := by decide +kernel
theorem d_Model_cover_226 : decode u_Model_cover.2.2.1 226 = .ok (.lconst 1, 1) := by decide +kernel
theorem d_Model_cover_227 : decode u_Model_cover.2.2.1 227 = .ok (.iload_n 2, 1) := by decide +kernel
theorem d_Model_cover_228 : decode u_Model_cover.2.2.1 228 = .ok (.lshl, 1) := by decide +kernel
theorem d_Model_cover_229 : decode u_Model_cover.2.2.1 229 = .ok (.lor, 1) := by decide +kernel
theorem d_Model_cover_230 : decode u_Model_cover.2.2.1 230 = .ok (.lstore 7, 2) := by decide +kernel
theorem d_Model_cover_232 : decode u_Model_cover.2.2.1 232 = .ok (.aload_n 0, 1) := by decide +kernel
theorem d_Model_cover_233 : decode u_Model_cover.2.2.1 233 = .ok (.getfield 134, 3) := by decide +kernel
theorem d_Model_cover_236 : decode u_Model_cover.2.2.1 236 = .ok (.iload 4, 2) := by decide +kernel
theorem d_Model_cover_238 : decode u_Model_cover.2.2.1 238 = .ok (.laload, 1) := by decide +kernel
theorem d_Model_cover_239 : decode u_Model_cover.2.2.1 239 = .ok (.lconst 0, 1) := by decide +kernel
theorem d_Model_cover_240 : decode u_Model_cover.2.2.1 240 = .ok (.lcmp, 1) := by decide +kernel
theorem d_Model_cover_241 : decode u_Model_cover.2.2.1 241 = .ok (.ifCond .lt 47, 3) := by decide +kernel
theorem d_Model_cover_244 : decode u_Model_cover.2.2.1 244 = .ok (.aload_n 0, 1) := by decide +kernel
theorem d_Model_cover_245 : decode u_Model_cover.2.2.1 245 = .ok (.getfield 134, 3) := by decide +kernel
theorem d_Model_cover_248 : decode u_Model_cover.2.2.1 248 = .ok (.iload 4, 2) := by decide +kernel
theorem d_Model_cover_250 : decode u_Model_cover.2.2.1 250 = .ok (.laload, 1) := by decide +kernel
theorem d_Model_cover_251 : decode u_Model_cover.2.2.1 251 = .ok (.lload 5, 2) := by decide +kernel
theorem d_Model_cover_253 : decode u_Model_cover.2.2.1 253 = .ok (.lcmp, 1) := by decide +kernel
theorem d_Model_cover_254 : decode u_Model_cover.2.2.1 254 = .ok (.ifCond .lt 52, 3) := by decide +kernel
theorem d_Model_cover_257 : decode u_Model_cover.2.2.1 257 = .ok (.aload_n 0, 1) := by decide +kernel
theorem d_Model_cover_258 : decode u_Model_cover.2.2.1 258 = .ok (.getfield 134, 3) := by decide +kernel
theorem d_Model_cover_261 : decode u_Model_cover.2.2.1 261 = .ok (.iload 4, 2) := by decide +kernel
theorem d_Model_cover_263 : decode u_Model_cover.2.2.1 263 = .ok (.laload, 1) := by decide +kernel
theorem d_Model_cover_264 : decode u_Model_cover.2.2.1 264 = .ok (.lload 5, 2) := by decide +kernel
theorem d_Model_cover_266 : decode u_Model_cover.2.2.1 266 = .ok (.lcmp, 1) := by decide +kernel
theorem d_Model_cover_267 : decode u_Model_cover.2.2.1 267 = .ok (.ifCond .ne 21, 3) := by decide +kernel
theorem d_Model_cover_270 : decode u_Model_cover.2.2.1 270 = .ok (.lload 7, 2) := by decide +kernel
theorem d_Model_cover_272 : decode u_Model_cover.2.2.1 272 = .ok (.aload_n 0, 1) := by decide +kernel
theorem d_Model_cover_273 : decode u_Model_cover.2.2.1 273 = .ok (.getfield 140, 3) := by decide +kernel
theorem d_Model_cover_276 : decode u_Model_cover.2.2.1 276 = .ok (.iload 4, 2) := by decide +kernel
theorem d_Model_cover_278 : decode u_Model_cover.2.2.1 278 = .ok (.laload, 1) := by decide +kernel
theorem d_Model_cover_279 : decode u_Model_cover.2.2.1 279 = .ok (.invokestatic 248, 3) := by decide +kernel
theorem d_Model_cover_282 : decode u_Model_cover.2.2.1 282 = .ok (.ifCond .ne 6, 3) := by decide +kernel
theorem d_Model_cover_285 : decode u_Model_cover.2.2.1 285 = .ok (.goto 21, 3) := by decide +kernel
theorem d_Model_cover_288 : decode u_Model_cover.2.2.1 288 = .ok (.aload_n 0, 1) := by decide +kernel
theorem d_Model_cover_289 : decode u_Model_cover.2.2.1 289 = .ok (.getfield 134, 3) := by decide +kernel
theorem d_Model_cover_292 : decode u_Model_cover.2.2.1 292 = .ok (.iload 4, 2) := by decide +kernel
theorem d_Model_cover_294 : decode u_Model_cover.2.2.1 294 = .ok (.lload 5, 2) := by decide +kernel
theorem d_Model_cover_296 : decode u_Model_cover.2.2.1 296 = .ok (.lastore, 1) := by decide +kernel
theorem d_Model_cover_297 : decode u_Model_cover.2.2.1 297 = .ok (.aload_n 0, 1) := by decide +kernel
theorem d_Model_cover_298 : decode u_Model_cover.2.2.1 298 = .ok (.getfield 140, 3) := by decide +kernel
theorem d_Model_cover_301 : decode u_Model_cover.2.2.1 301 = .ok (.iload 4, 2) := by decide +kernel
theorem d_Model_cover_303 : decode u_Model_cover.2.2.1 303 = .ok (.lload 7, 2) := by decide +kernel
theorem d_Model_cover_305 : decode u_Model_cover.2.2.1 305 = .ok (.lastore, 1) := by decide +kernel
theorem d_Model_cover_306 : decode u_Model_cover.2.2.1 306 = .ok (.iinc 3 1, 3) := by decide +kernel
theorem d_Model_cover_309 : decode u_Model_cover.2.2.1 309 = .ok (.goto (-166), 3) := by decide +kernel
theorem d_Model_cover_312 : decode u_Model_cover.2.2.1 312 = .ok (.iconst 0, 1) := by decide +kernel
theorem d_Model_cover_313 : decode u_Model_cover.2.2.1 313 = .ok (.istore_n 3, 1) := by decide +kernel
theorem d_Model_cover_314 : decode u_Model_cover.2.2.1 314 = .ok (.iload_n 3, 1) := by decide +kernel
theorem d_Model_cover_315 : decode u_Model_cover.2.2.1 315 = .ok (.sipush 4096, 3) := by decide +kernel
theorem d_Model_cover_318 : decode u_Model_cover.2.2.1 318 = .ok (.if_icmp .ge 33, 3) := by decide +kernel
theorem d_Model_cover_321 : decode u_Model_cover.2.2.1 321 = .ok (.aload_n 0, 1) := by decide +kernel
theorem d_Model_cover_322 : decode u_Model_cover.2.2.1 322 = .ok (.getfield 130, 3) := by decide +kernel
theorem d_Model_cover_325 : decode u_Model_cover.2.2.1 325 = .ok (.iload_n 3, 1) := by decide +kernel
theorem d_Model_cover_326 : decode u_Model_cover.2.2.1 326 = .ok (.aload_n 0, 1) := by decide +kernel
theorem d_Model_cover_327 : decode u_Model_cover.2.2.1 327 = .ok (.getfield 134, 3) := by decide +kernel
theorem d_Model_cover_330 : decode u_Model_cover.2.2.1 330 = .ok (.iload_n 3, 1) := by decide +kernel
theorem d_Model_cover_331 : decode u_Model_cover.2.2.1 331 = .ok (.laload, 1) := by decide +kernel
theorem d_Model_cover_332 : decode u_Model_cover.2.2.1 332 = .ok (.lastore, 1) := by decide +kernel
theorem d_Model_cover_333 : decode u_Model_cover.2.2.1 333 = .ok (.aload_n 0, 1) := by decide +kernel
theorem d_Model_cover_334 : decode u_Model_cover.2.2.1 334 = .ok (.getfield 137, 3) := by decide +kernel
theorem d_Model_cover_337 : decode u_Model_cover.2.2.1 337 = .ok (.iload_n 3, 1) := by decide +kernel
theorem d_Model_cover_338 : decode u_Model_cover.2.2.1 338 = .ok (.aload_n 0, 1) := by decide +kernel
theorem d_Model_cover_339 : decode u_Model_cover.2.2.1 339 = .ok (.getfield 140, 3) := by decide +kernel
theorem d_Model_cover_342 : decode u_Model_cover.2.2.1 342 = .ok (.iload_n 3, 1) := by decide +kernel
theorem d_Model_cover_343 : decode u_Model_cover.2.2.1 343 = .ok (.laload, 1) := by decide +kernel
theorem d_Model_cover_344 : decode u_Model_cover.2.2.1 344 = .ok (.lastore, 1) := by decide +kernel
theorem d_Model_cover_345 : decode u_Model_cover.2.2.1 345 = .ok (.iinc 3 1, 3) := by decide +kernel
theorem d_Model_cover_348 : decode u_Model_cover.2.2.1 348 = .ok (.goto (-34), 3) := by decide +kernel
theorem d_Model_cover_351 : decode u_Model_cover.2.2.1 351 = .ok (.iinc 2 1, 3) := by decide +kernel
theorem d_Model_cover_354 : decode u_Model_cover.2.2.1 354 = .ok (.goto (-260), 3) := by decide +kernel
theorem d_Model_cover_357 : decode u_Model_cover.2.2.1 357 = .ok (.aload_n 0, 1) := by decide +kernel
theorem d_Model_cover_358 : decode u_Model_cover.2.2.1 358 = .ok (.getfield 130, 3) := by decide +kernel
theorem d_Model_cover_361 : decode u_Model_cover.2.2.1 361 = .ok (.iload_n 1, 1) := by decide +kernel
theorem d_Model_cover_362 : decode u_Model_cover.2.2.1 362 = .ok (.laload, 1) := by decide +kernel
theorem d_Model_cover_363 : decode u_Model_cover.2.2.1 363 = .ok (.lconst 0, 1) := by decide +kernel
theorem d_Model_cover_364 : decode u_Model_cover.2.2.1 364 = .ok (.lcmp, 1) := by decide +kernel
theorem d_Model_cover_365 : decode u_Model_cover.2.2.1 365 = .ok (.ifCond .ge 5, 3) := by decide +kernel
theorem d_Model_cover_368 : decode u_Model_cover.2.2.1 368 = .ok (.iconst (-1), 1) := by decide +kernel
theorem d_Model_cover_369 : decode u_Model_cover.2.2.1 369 = .ok (.ireturn, 1) := by decide +kernel
theorem d_Model_cover_370 : decode u_Model_cover.2.2.1 370 = .ok (.aload_n 0, 1) := by decide +kernel
theorem d_Model_cover_371 : decode u_Model_cover.2.2.1 371 = .ok (.iconst 1, 1) := by decide +kernel
theorem d_Model_cover_372 : decode u_Model_cover.2.2.1 372 = .ok (.putfield 161, 3) := by decide +kernel
theorem d_Model_cover_375 : decode u_Model_cover.2.2.1 375 = .ok (.iconst 0, 1) := by decide +kernel
theorem d_Model_cover_376 : decode u_Model_cover.2.2.1 376 = .ok (.istore_n 2, 1) := by decide +kernel
theorem d_Model_cover_377 : decode u_Model_cover.2.2.1 377 = .ok (.iload_n 2, 1) := by decide +kernel
theorem d_Model_cover_378 : decode u_Model_cover.2.2.1 378 = .ok (.aload_n 0, 1) := by decide +kernel
theorem d_Model_cover_379 : decode u_Model_cover.2.2.1 379 = .ok (.getfield 102, 3) := by decide +kernel
theorem d_Model_cover_382 : decode u_Model_cover.2.2.1 382 = .ok (.if_icmp .ge 35, 3) := by decide +kernel
theorem d_Model_cover_385 : decode u_Model_cover.2.2.1 385 = .ok (.aload_n 0, 1) := by decide +kernel
theorem d_Model_cover_386 : decode u_Model_cover.2.2.1 386 = .ok (.getfield 124, 3) := by decide +kernel
theorem d_Model_cover_389 : decode u_Model_cover.2.2.1 389 = .ok (.iload_n 2, 1) := by decide +kernel
theorem d_Model_cover_390 : decode u_Model_cover.2.2.1 390 = .ok (.aload_n 0, 1) := by decide +kernel
theorem d_Model_cover_391 : decode u_Model_cover.2.2.1 391 = .ok (.getfield 137, 3) := by decide +kernel
theorem d_Model_cover_394 : decode u_Model_cover.2.2.1 394 = .ok (.iload_n 1, 1) := by decide +kernel
theorem d_Model_cover_395 : decode u_Model_cover.2.2.1 395 = .ok (.laload, 1) := by decide +kernel
theorem d_Model_cover_396 : decode u_Model_cover.2.2.1 396 = .ok (.iload_n 2, 1) := by decide +kernel
theorem d_Model_cover_397 : decode u_Model_cover.2.2.1 397 = .ok (.lshr, 1) := by decide +kernel
theorem d_Model_cover_398 : decode u_Model_cover.2.2.1 398 = .ok (.lconst 1, 1) := by decide +kernel
theorem d_Model_cover_399 : decode u_Model_cover.2.2.1 399 = .ok (.land, 1) := by decide +kernel
theorem d_Model_cover_400 : decode u_Model_cover.2.2.1 400 = .ok (.lconst 1, 1) := by decide +kernel
theorem d_Model_cover_401 : decode u_Model_cover.2.2.1 401 = .ok (.lcmp, 1) := by decide +kernel
theorem d_Model_cover_402 : decode u_Model_cover.2.2.1 402 = .ok (.ifCond .ne 7, 3) := by decide +kernel
theorem d_Model_cover_405 : decode u_Model_cover.2.2.1 405 = .ok (.iconst 1, 1) := by decide +kernel
theorem d_Model_cover_406 : decode u_Model_cover.2.2.1 406 = .ok (.goto 4, 3) := by decide +kernel
theorem d_Model_cover_409 : decode u_Model_cover.2.2.1 409 = .ok (.iconst 0, 1) := by decide +kernel
theorem d_Model_cover_410 : decode u_Model_cover.2.2.1 410 = .ok (.bastore, 1) := by decide +kernel
theorem d_Model_cover_411 : decode u_Model_cover.2.2.1 411 = .ok (.iinc 2 1, 3) := by decide +kernel
theorem d_Model_cover_414 : decode u_Model_cover.2.2.1 414 = .ok (.goto (-37), 3) := by decide +kernel
theorem d_Model_cover_417 : decode u_Model_cover.2.2.1 417 = .ok (.aload_n 0, 1) := by decide +kernel
theorem d_Model_cover_418 : decode u_Model_cover.2.2.1 418 = .ok (.getfield 130, 3) := by decide +kernel
theorem d_Model_cover_421 : decode u_Model_cover.2.2.1 421 = .ok (.iload_n 1, 1) := by decide +kernel
theorem d_Model_cover_422 : decode u_Model_cover.2.2.1 422 = .ok (.laload, 1) := by decide +kernel
theorem d_Model_cover_423 : decode u_Model_cover.2.2.1 423 = .ok (.l2i, 1) := by decide +kernel
theorem d_Model_cover_424 : decode u_Model_cover.2.2.1 424 = .ok (.ireturn, 1) := by decide +kernel
theorem w_Model_cover : am_code y_Model_cover u_Model_cover ∈ am_ws := am_mem (List.mem_of_getElem? (i := 1315) (by decide +kernel)) rfl
def a_Model_cover_0 (rc : Nat → Nat → Int32 → Int32 → Int32 → Int32 → Int64 → Int64 → Int32 → Int64 → Int32 → Nat → am_M → Option (Int32 × am_M)) (r0 : Nat) (x1 : Int32) (x2 : Int32) (x3 : Int32) (x4 : Int32) (l5 : Int64) (l7 : Int64) (s0 : Int32) (sl0 : Int64) (s1 : Int32) (sr2 : Nat) (M : am_M) : Option (Int32 × am_M) := if (12 : Int32) ≤ x2 then (rc 2 r0 x1 (0 : Int32) 0 0 0 0 0 0 0 0 M) else ((q_gtr M r0 10 6).bind (fun t30 => (q_ldz M t30 x2).bind (fun t34 => if t34 = 0 then (rc 1 r0 0 x2 0 0 0 0 (0 : Int32) 0 x1 0 M) else (rc 1 r0 0 x2 0 0 0 0 ((1 : Int32) <<< (x2 &&& 31)) 0 x1 0 M))))
def a_Model_cover_1 (rc : Nat → Nat → Int32 → Int32 → Int32 → Int32 → Int64 → Int64 → Int32 → Int64 → Int32 → Nat → am_M → Option (Int32 × am_M)) (r0 : Nat) (x1 : Int32) (x2 : Int32) (x3 : Int32) (x4 : Int32) (l5 : Int64) (l7 : Int64) (s0 : Int32) (sl0 : Int64) (s1 : Int32) (sr2 : Nat) (M : am_M) : Option (Int32 × am_M) := rc 0 r0 (s1 ||| s0) (x2 + (1 : Int32)) 0 0 0 0 0 0 0 0 M
def a_Model_cover_2 (rc : Nat → Nat → Int32 → Int32 → Int32 → Int32 → Int64 → Int64 → Int32 → Int64 → Int32 → Nat → am_M → Option (Int32 × am_M)) (r0 : Nat) (x1 : Int32) (x2 : Int32) (x3 : Int32) (x4 : Int32) (l5 : Int64) (l7 : Int64) (s0 : Int32) (sl0 : Int64) (s1 : Int32) (sr2 : Nat) (M : am_M) : Option (Int32 × am_M) := if (4096 : Int32) ≤ x2 then ((q_gtr M r0 10 46).bind (fun t86 => (q_stl M t86 (0 : Int32) (0 : Int64)).bind (fun M91 => rc 4 r0 x1 (0 : Int32) 0 0 0 0 0 0 0 0 M91))) else ((q_gtr M r0 10 44).bind (fun t63 => if x2 = 0 then (rc 3 r0 x1 x2 0 0 0 0 0 (0 : Int64) x2 t63 M) else (rc 3 r0 x1 x2 0 0 0 0 0 (-1 : Int64) x2 t63 M)))
def a_Model_cover_3 (rc : Nat → Nat → Int32 → Int32 → Int32 → Int32 → Int64 → Int64 → Int32 → Int64 → Int32 → Nat → am_M → Option (Int32 × am_M)) (r0 : Nat) (x1 : Int32) (x2 : Int32) (x3 : Int32) (x4 : Int32) (l5 : Int64) (l7 : Int64) (s0 : Int32) (sl0 : Int64) (s1 : Int32) (sr2 : Nat) (M : am_M) : Option (Int32 × am_M) := (q_stl M sr2 s1 sl0).bind (fun M78 => rc 2 r0 x1 (x2 + (1 : Int32)) 0 0 0 0 0 0 0 0 M78)
def a_Model_cover_4 (rc : Nat → Nat → Int32 → Int32 → Int32 → Int32 → Int64 → Int64 → Int32 → Int64 → Int32 → Nat → am_M → Option (Int32 × am_M)) (r0 : Nat) (x1 : Int32) (x2 : Int32) (x3 : Int32) (x4 : Int32) (l5 : Int64) (l7 : Int64) (s0 : Int32) (sl0 : Int64) (s1 : Int32) (sr2 : Nat) (M : am_M) : Option (Int32 × am_M) := (q_gti M r0 10 34).bind (fun t96 => if t96 ≤ x2 then ((q_gtr M r0 10 44).bind (fun t358 => (q_ldl M t358 x1).bind (fun t362 => if 0 ≤ (lg_cmp t362 (0 : Int64)) then ((q_ptz M r0 10 41 (1 : Int32)).bind (fun M372 => rc 10 r0 x1 (0 : Int32) 0 0 0 0 0 0 0 0 M372)) else (some ((-1 : Int32), M))))) else (rc 5 r0 x1 x2 (0 : Int32) 0 0 0 0 0 0 0 M))
def a_Model_cover_5 (rc : Nat → Nat → Int32 → Int32 → Int32 → Int32 → Int64 → Int64 → Int32 → Int64 → Int32 → Nat → am_M → Option (Int32 × am_M)) (r0 : Nat) (x1 : Int32) (x2 : Int32) (x3 : Int32) (x4 : Int32) (l5 : Int64) (l7 : Int64) (s0 : Int32) (sl0 : Int64) (s1 : Int32) (sr2 : Nat) (M : am_M) : Option (Int32 × am_M) := if (4096 : Int32) ≤ x3 then (rc 6 r0 x1 x2 (0 : Int32) 0 0 0 0 0 0 0 M) else ((q_gtr M r0 10 45).bind (fun t112 => (q_gtr M r0 10 44).bind (fun t117 => (q_ldl M t117 x3).bind (fun t121 => (q_stl M t112 x3 t121).bind (fun M122 => (q_gtr M122 r0 10 47).bind (fun t124 => (q_gtr M122 r0 10 46).bind (fun t129 => (q_ldl M122 t129 x3).bind (fun t133 => (q_stl M122 t124 x3 t133).bind (fun M134 => rc 5 r0 x1 x2 (x3 + (1 : Int32)) 0 0 0 0 0 0 0 M134)))))))))
def a_Model_cover_6 (rc : Nat → Nat → Int32 → Int32 → Int32 → Int32 → Int64 → Int64 → Int32 → Int64 → Int32 → Nat → am_M → Option (Int32 × am_M)) (r0 : Nat) (x1 : Int32) (x2 : Int32) (x3 : Int32) (x4 : Int32) (l5 : Int64) (l7 : Int64) (s0 : Int32) (sl0 : Int64) (s1 : Int32) (sr2 : Nat) (M : am_M) : Option (Int32 × am_M) := if (4096 : Int32) ≤ x3 then (rc 9 r0 x1 x2 (0 : Int32) 0 0 0 0 0 0 0 M) else ((q_gtr M r0 10 44).bind (fun t151 => (q_ldl M t151 x3).bind (fun t155 => if 0 ≤ (lg_cmp t155 (0 : Int64)) then ((q_gtr M r0 10 40).bind (fun t166 => (q_ldi M t166 x2).bind (fun t170 => (q_gtr M r0 10 44).bind (fun t175 => (q_ldl M t175 x3).bind (fun t179 => (q_gtr M r0 10 38).bind (fun t181 => (q_ldi M t181 x2).bind (fun t185 => (q_gtr M r0 10 37).bind (fun t189 => (q_ldi M t189 x2).bind (fun t193 => (q_gtr M r0 10 23).bind (fun t197 => (q_ldi M t197 (8 : Int32)).bind (fun t202 => (q_gtr M r0 10 40).bind (fun t206 => (q_ldi M t206 x2).bind (fun t210 => (f_Model_many M (x3 &&& t210)).bind (fun t212 => (q_gtr M r0 10 46).bind (fun t221 => (q_ldl M t221 x3).bind (fun t225 => (q_gtr M r0 10 45).bind (fun t233 => (q_ldl M t233 (x3 ||| t170)).bind (fun t238 => if (lg_cmp t238 (0 : Int64)) < 0 then (rc 7 r0 x1 x2 x3 (x3 ||| t170) (((t179 + ((t185).toInt64)) - ((t193).toInt64)) + (((t202).toInt64) * ((t212).toInt64))) (t225 ||| ((1 : Int64) <<< ((x2).toInt64 &&& 63))) 0 0 0 0 M) else ((q_gtr M r0 10 45).bind (fun t245 => (q_ldl M t245 (x3 ||| t170)).bind (fun t250 => if (lg_cmp t250 (((t179 + ((t185).toInt64)) - ((t193).toInt64)) + (((t202).toInt64) * ((t212).toInt64)))) < 0 then (rc 8 r0 x1 x2 x3 0 0 0 0 0 0 0 M) else ((q_gtr M r0 10 45).bind (fun t258 => (q_ldl M t258 (x3 ||| t170)).bind (fun t263 => if (lg_cmp t263 (((t179 + ((t185).toInt64)) - ((t193).toInt64)) + (((t202).toInt64) * ((t212).toInt64)))) = 0 then ((q_gtr M r0 10 47).bind (fun t273 => (q_ldl M t273 (x3 ||| t170)).bind (fun t278 => (f_Model_isBetter M (t225 ||| ((1 : Int64) <<< ((x2).toInt64 &&& 63))) t278).bind (fun t279 => if t279 = 0 then (rc 8 r0 x1 x2 x3 0 0 0 0 0 0 0 M) else (rc 7 r0 x1 x2 x3 (x3 ||| t170) (((t179 + ((t185).toInt64)) - ((t193).toInt64)) + (((t202).toInt64) * ((t212).toInt64))) (t225 ||| ((1 : Int64) <<< ((x2).toInt64 &&& 63))) 0 0 0 0 M))))) else (rc 7 r0 x1 x2 x3 (x3 ||| t170) (((t179 + ((t185).toInt64)) - ((t193).toInt64)) + (((t202).toInt64) * ((t212).toInt64))) (t225 ||| ((1 : Int64) <<< ((x2).toInt64 &&& 63))) 0 0 0 0 M))))))))))))))))))))))))) else (rc 8 r0 x1 x2 x3 0 0 0 0 0 0 0 M))))
def a_Model_cover_7 (rc : Nat → Nat → Int32 → Int32 → Int32 → Int32 → Int64 → Int64 → Int32 → Int64 → Int32 → Nat → am_M → Option (Int32 × am_M)) (r0 : Nat) (x1 : Int32) (x2 : Int32) (x3 : Int32) (x4 : Int32) (l5 : Int64) (l7 : Int64) (s0 : Int32) (sl0 : Int64) (s1 : Int32) (sr2 : Nat) (M : am_M) : Option (Int32 × am_M) := (q_gtr M r0 10 45).bind (fun t289 => (q_stl M t289 x4 l5).bind (fun M296 => (q_gtr M296 r0 10 47).bind (fun t298 => (q_stl M296 t298 x4 l7).bind (fun M305 => rc 8 r0 x1 x2 x3 0 0 0 0 0 0 0 M305))))
def a_Model_cover_8 (rc : Nat → Nat → Int32 → Int32 → Int32 → Int32 → Int64 → Int64 → Int32 → Int64 → Int32 → Nat → am_M → Option (Int32 × am_M)) (r0 : Nat) (x1 : Int32) (x2 : Int32) (x3 : Int32) (x4 : Int32) (l5 : Int64) (l7 : Int64) (s0 : Int32) (sl0 : Int64) (s1 : Int32) (sr2 : Nat) (M : am_M) : Option (Int32 × am_M) := rc 6 r0 x1 x2 (x3 + (1 : Int32)) 0 0 0 0 0 0 0 M
def a_Model_cover_9 (rc : Nat → Nat → Int32 → Int32 → Int32 → Int32 → Int64 → Int64 → Int32 → Int64 → Int32 → Nat → am_M → Option (Int32 × am_M)) (r0 : Nat) (x1 : Int32) (x2 : Int32) (x3 : Int32) (x4 : Int32) (l5 : Int64) (l7 : Int64) (s0 : Int32) (sl0 : Int64) (s1 : Int32) (sr2 : Nat) (M : am_M) : Option (Int32 × am_M) := if (4096 : Int32) ≤ x3 then (rc 4 r0 x1 (x2 + (1 : Int32)) 0 0 0 0 0 0 0 0 M) else ((q_gtr M r0 10 44).bind (fun t322 => (q_gtr M r0 10 45).bind (fun t327 => (q_ldl M t327 x3).bind (fun t331 => (q_stl M t322 x3 t331).bind (fun M332 => (q_gtr M332 r0 10 46).bind (fun t334 => (q_gtr M332 r0 10 47).bind (fun t339 => (q_ldl M332 t339 x3).bind (fun t343 => (q_stl M332 t334 x3 t343).bind (fun M344 => rc 9 r0 x1 x2 (x3 + (1 : Int32)) 0 0 0 0 0 0 0 M344)))))))))
def a_Model_cover_10 (rc : Nat → Nat → Int32 → Int32 → Int32 → Int32 → Int64 → Int64 → Int32 → Int64 → Int32 → Nat → am_M → Option (Int32 × am_M)) (r0 : Nat) (x1 : Int32) (x2 : Int32) (x3 : Int32) (x4 : Int32) (l5 : Int64) (l7 : Int64) (s0 : Int32) (sl0 : Int64) (s1 : Int32) (sr2 : Nat) (M : am_M) : Option (Int32 × am_M) := (q_gti M r0 10 34).bind (fun t379 => if t379 ≤ x2 then ((q_gtr M r0 10 44).bind (fun t418 => (q_ldl M t418 x1).bind (fun t422 => some (((t422).toInt32), M)))) else ((q_gtr M r0 10 42).bind (fun t386 => (q_gtr M r0 10 46).bind (fun t391 => (q_ldl M t391 x1).bind (fun t395 => if (lg_cmp ((t395 >>> ((x2).toInt64 &&& 63)) &&& (1 : Int64)) (1 : Int64)) = 0 then (rc 11 r0 x1 x2 0 0 0 0 (1 : Int32) 0 x2 t386 M) else (rc 11 r0 x1 x2 0 0 0 0 (0 : Int32) 0 x2 t386 M))))))
def a_Model_cover_11 (rc : Nat → Nat → Int32 → Int32 → Int32 → Int32 → Int64 → Int64 → Int32 → Int64 → Int32 → Nat → am_M → Option (Int32 × am_M)) (r0 : Nat) (x1 : Int32) (x2 : Int32) (x3 : Int32) (x4 : Int32) (l5 : Int64) (l7 : Int64) (s0 : Int32) (sl0 : Int64) (s1 : Int32) (sr2 : Nat) (M : am_M) : Option (Int32 × am_M) := (q_stz M sr2 s1 s0).bind (fun M410 => rc 10 r0 x1 (x2 + (1 : Int32)) 0 0 0 0 0 0 0 0 M410)
def g_Model_cover : Nat → Nat → Nat → Int32 → Int32 → Int32 → Int32 → Int64 → Int64 → Int32 → Int64 → Int32 → Nat → am_M → Option (Int32 × am_M)
  | 0, _, _, _, _, _, _, _, _, _, _, _, _, _ => none
  | F + 1, 0, r0, x1, x2, x3, x4, l5, l7, s0, sl0, s1, sr2, M => a_Model_cover_0 (g_Model_cover F) r0 x1 x2 x3 x4 l5 l7 s0 sl0 s1 sr2 M
  | F + 1, 1, r0, x1, x2, x3, x4, l5, l7, s0, sl0, s1, sr2, M => a_Model_cover_1 (g_Model_cover F) r0 x1 x2 x3 x4 l5 l7 s0 sl0 s1 sr2 M
  | F + 1, 2, r0, x1, x2, x3, x4, l5, l7, s0, sl0, s1, sr2, M => a_Model_cover_2 (g_Model_cover F) r0 x1 x2 x3 x4 l5 l7 s0 sl0 s1 sr2 M
  | F + 1, 3, r0, x1, x2, x3, x4, l5, l7, s0, sl0, s1, sr2, M => a_Model_cover_3 (g_Model_cover F) r0 x1 x2 x3 x4 l5 l7 s0 sl0 s1 sr2 M
  | F + 1, 4, r0, x1, x2, x3, x4, l5, l7, s0, sl0, s1, sr2, M => a_Model_cover_4 (g_Model_cover F) r0 x1 x2 x3 x4 l5 l7 s0 sl0 s1 sr2 M
  | F + 1, 5, r0, x1, x2, x3, x4, l5, l7, s0, sl0, s1, sr2, M => a_Model_cover_5 (g_Model_cover F) r0 x1 x2 x3 x4 l5 l7 s0 sl0 s1 sr2 M
  | F + 1, 6, r0, x1, x2, x3, x4, l5, l7, s0, sl0, s1, sr2, M => a_Model_cover_6 (g_Model_cover F) r0 x1 x2 x3 x4 l5 l7 s0 sl0 s1 sr2 M
  | F + 1, 7, r0, x1, x2, x3, x4, l5, l7, s0, sl0, s1, sr2, M => a_Model_cover_7 (g_Model_cover F) r0 x1 x2 x3 x4 l5 l7 s0 sl0 s1 sr2 M
  | F + 1, 8, r0, x1, x2, x3, x4, l5, l7, s0, sl0, s1, sr2, M => a_Model_cover_8 (g_Model_cover F) r0 x1 x2 x3 x4 l5 l7 s0 sl0 s1 sr2 M
  | F + 1, 9, r0, x1, x2, x3, x4, l5, l7, s0, sl0, s1, sr2, M => a_Model_cover_9 (g_Model_cover F) r0 x1 x2 x3 x4 l5 l7 s0 sl0 s1 sr2 M
  | F + 1, 10, r0, x1, x2, x3, x4, l5, l7, s0, sl0, s1, sr2, M => a_Model_cover_10 (g_Model_cover F) r0 x1 x2 x3 x4 l5 l7 s0 sl0 s1 sr2 M
  | F + 1, 11, r0, x1, x2, x3, x4, l5, l7, s0, sl0, s1, sr2, M => a_Model_cover_11 (g_Model_cover F) r0 x1 x2 x3 x4 l5 l7 s0 sl0 s1 sr2 M
  | _ + 1, _ + 12, _, _, _, _, _, _, _, _, _, _, _, _ => none
def e_Model_cover (rc : Nat → Nat → Int32 → Int32 → Int32 → Int32 → Int64 → Int64 → Int32 → Int64 → Int32 → Nat → am_M → Option (Int32 × am_M)) (M : am_M) (a0 : Nat) : Option (Int32 × am_M) := (q_pti M a0 10 0 (0 : Int32)).bind (fun M2 => (q_ob M2 a0 10).bind (fun o6 => (f_Model_uncovers M2 a0).bind (fun p6 => (q_gti p6.2 a0 10 34).bind (fun t10 => if 0 ≤ t10 then (rc 0 a0 (0 : Int32) (0 : Int32) 0 0 0 0 0 0 0 0 p6.2) else (some ((-1 : Int32), p6.2))))))
def f_Model_cover (M : am_M) (a0 : Nat) : Option (Int32 × am_M) := e_Model_cover (g_Model_cover 1000000000) M a0
theorem fl_Model_130 : am_fl "CrewOfficeModel" 130 10 44 := ⟨by decide, by decide, List.mem_of_getElem? (i := 1050) (by decide +kernel)⟩
theorem fl_Model_134 : am_fl "CrewOfficeModel" 134 10 45 := ⟨by decide, by decide, List.mem_of_getElem? (i := 1051) (by decide +kernel)⟩
theorem fl_Model_137 : am_fl "CrewOfficeModel" 137 10 46 := ⟨by decide, by decide, List.mem_of_getElem? (i := 1052) (by decide +kernel)⟩
theorem fl_Model_140 : am_fl "CrewOfficeModel" 140 10 47 := ⟨by decide, by decide, List.mem_of_getElem? (i := 1053) (by decide +kernel)⟩
theorem kV_Model_158 : am_kV "CrewOfficeModel" 158 10 y_Model_uncovers u_Model_uncovers 0 := ⟨List.mem_of_getElem? (i := 1189) (by decide +kernel), ⟨List.mem_of_getElem? (i := 1191) (by decide +kernel), List.mem_of_getElem? (i := 30) (by decide +kernel)⟩, List.mem_of_getElem? (i := 65) (by decide +kernel), w_Model_uncovers, ⟨⟨by decide +kernel, by decide +kernel⟩, by decide +kernel⟩⟩
theorem kS_Model_232 : am_kS "CrewOfficeModel" 232 y_Model_many u_Model_many 1 := ⟨List.mem_of_getElem? (i := 1293) (by decide +kernel), List.mem_of_getElem? (i := 1294) (by decide +kernel), List.mem_of_getElem? (i := 65) (by decide +kernel), w_Model_many, ⟨⟨by decide +kernel, by decide +kernel⟩, by decide +kernel⟩⟩
set_option maxHeartbeats 4000000 in
theorem s_Model_cover_0 {rc : Nat → Nat → Int32 → Int32 → Int32 → Int32 → Int64 → Int64 → Int32 → Int64 → Int32 → Nat → am_M → Option (Int32 × am_M)} {res : Int32} {M' : am_M} (ih_0 : ∀ (r0 : Nat) (x1 : Int32) (x2 : Int32) (x3 : Int32) (x4 : Int32) (l5 : Int64) (l7 : Int64) (s0 : Int32) (sl0 : Int64) (s1 : Int32) (sr2 : Nat) (M : am_M), rc 0 r0 x1 x2 x3 x4 l5 l7 s0 sl0 s1 sr2 M = some (res, M') → AW u_Model_cover R_Model_cover 0 0 22 [(0, .ref r0), (1, .int x1), (2, .int x2)] [] M (fun r M2 => r = .inl (some (.int res)) ∧ M2 = M')) (ih_1 : ∀ (r0 : Nat) (x1 : Int32) (x2 : Int32) (x3 : Int32) (x4 : Int32) (l5 : Int64) (l7 : Int64) (s0 : Int32) (sl0 : Int64) (s1 : Int32) (sr2 : Nat) (M : am_M), rc 1 r0 x1 x2 x3 x4 l5 l7 s0 sl0 s1 sr2 M = some (res, M') → AW u_Model_cover R_Model_cover 0 0 45 [(0, .ref r0), (2, .int x2)] [.int s0, .int s1] M (fun r M2 => r = .inl (some (.int res)) ∧ M2 = M')) (ih_2 : ∀ (r0 : Nat) (x1 : Int32) (x2 : Int32) (x3 : Int32) (x4 : Int32) (l5 : Int64) (l7 : Int64) (s0 : Int32) (sl0 : Int64) (s1 : Int32) (sr2 : Nat) (M : am_M), rc 2 r0 x1 x2 x3 x4 l5 l7 s0 sl0 s1 sr2 M = some (res, M') → AW u_Model_cover R_Model_cover 0 0 55 [(0, .ref r0), (1, .int x1), (2, .int x2)] [] M (fun r M2 => r = .inl (some (.int res)) ∧ M2 = M')) (ih_3 : ∀ (r0 : Nat) (x1 : Int32) (x2 : Int32) (x3 : Int32) (x4 : Int32) (l5 : Int64) (l7 : Int64) (s0 : Int32) (sl0 : Int64) (s1 : Int32) (sr2 : Nat) (M : am_M), rc 3 r0 x1 x2 x3 x4 l5 l7 s0 sl0 s1 sr2 M = some (res, M') → AW u_Model_cover R_Model_cover 0 0 78 [(0, .ref r0), (1, .int x1), (2, .int x2)] [.long sl0, .int s1, .ref sr2] M (fun r M2 => r = .inl (some (.int res)) ∧ M2 = M')) (ih_4 : ∀ (r0 : Nat) (x1 : Int32) (x2 : Int32) (x3 : Int32) (x4 : Int32) (l5 : Int64) (l7 : Int64) (s0 : Int32) (sl0 : Int64) (s1 : Int32) (sr2 : Nat) (M : am_M), rc 4 r0 x1 x2 x3 x4 l5 l7 s0 sl0 s1 sr2 M = some (res, M') → AW u_Model_cover R_Model_cover 0 0 94 [(0, .ref r0), (1, .int x1), (2, .int x2)] [] M (fun r M2 => r = .inl (some (.int res)) ∧ M2 = M')) (ih_5 : ∀ (r0 : Nat) (x1 : Int32) (x2 : Int32) (x3 : Int32) (x4 : Int32) (l5 : Int64) (l7 : Int64) (s0 : Int32) (sl0 : Int64) (s1 : Int32) (sr2 : Nat) (M : am_M), rc 5 r0 x1 x2 x3 x4 l5 l7 s0 sl0 s1 sr2 M = some (res, M') → AW u_Model_cover R_Model_cover 0 0 104 [(0, .ref r0), (1, .int x1), (2, .int x2), (3, .int x3)] [] M (fun r M2 => r = .inl (some (.int res)) ∧ M2 = M')) (ih_6 : ∀ (r0 : Nat) (x1 : Int32) (x2 : Int32) (x3 : Int32) (x4 : Int32) (l5 : Int64) (l7 : Int64) (s0 : Int32) (sl0 : Int64) (s1 : Int32) (sr2 : Nat) (M : am_M), rc 6 r0 x1 x2 x3 x4 l5 l7 s0 sl0 s1 sr2 M = some (res, M') → AW u_Model_cover R_Model_cover 0 0 143 [(0, .ref r0), (1, .int x1), (2, .int x2), (3, .int x3)] [] M (fun r M2 => r = .inl (some (.int res)) ∧ M2 = M')) (ih_7 : ∀ (r0 : Nat) (x1 : Int32) (x2 : Int32) (x3 : Int32) (x4 : Int32) (l5 : Int64) (l7 : Int64) (s0 : Int32) (sl0 : Int64) (s1 : Int32) (sr2 : Nat) (M : am_M), rc 7 r0 x1 x2 x3 x4 l5 l7 s0 sl0 s1 sr2 M = some (res, M') → AW u_Model_cover R_Model_cover 0 0 288 [(0, .ref r0), (1, .int x1), (2, .int x2), (3, .int x3), (4, .int x4), (5, .long l5), (7, .long l7)] [] M (fun r M2 => r = .inl (some (.int res)) ∧ M2 = M')) (ih_8 : ∀ (r0 : Nat) (x1 : Int32) (x2 : Int32) (x3 : Int32) (x4 : Int32) (l5 : Int64) (l7 : Int64) (s0 : Int32) (sl0 : Int64) (s1 : Int32) (sr2 : Nat) (M : am_M), rc 8 r0 x1 x2 x3 x4 l5 l7 s0 sl0 s1 sr2 M = some (res, M') → AW u_Model_cover R_Model_cover 0 0 306 [(0, .ref r0), (1, .int x1), (2, .int x2), (3, .int x3)] [] M (fun r M2 => r = .inl (some (.int res)) ∧ M2 = M')) (ih_9 : ∀ (r0 : Nat) (x1 : Int32) (x2 : Int32) (x3 : Int32) (x4 : Int32) (l5 : Int64) (l7 : Int64) (s0 : Int32) (sl0 : Int64) (s1 : Int32) (sr2 : Nat) (M : am_M), rc 9 r0 x1 x2 x3 x4 l5 l7 s0 sl0 s1 sr2 M = some (res, M') → AW u_Model_cover R_Model_cover 0 0 314 [(0, .ref r0), (1, .int x1), (2, .int x2), (3, .int x3)] [] M (fun r M2 => r = .inl (some (.int res)) ∧ M2 = M')) (ih_10 : ∀ (r0 : Nat) (x1 : Int32) (x2 : Int32) (x3 : Int32) (x4 : Int32) (l5 : Int64) (l7 : Int64) (s0 : Int32) (sl0 : Int64) (s1 : Int32) (sr2 : Nat) (M : am_M), rc 10 r0 x1 x2 x3 x4 l5 l7 s0 sl0 s1 sr2 M = some (res, M') → AW u_Model_cover R_Model_cover 0 0 377 [(0, .ref r0), (1, .int x1), (2, .int x2)] [] M (fun r M2 => r = .inl (some (.int res)) ∧ M2 = M')) (ih_11 : ∀ (r0 : Nat) (x1 : Int32) (x2 : Int32) (x3 : Int32) (x4 : Int32) (l5 : Int64) (l7 : Int64) (s0 : Int32) (sl0 : Int64) (s1 : Int32) (sr2 : Nat) (M : am_M), rc 11 r0 x1 x2 x3 x4 l5 l7 s0 sl0 s1 sr2 M = some (res, M') → AW u_Model_cover R_Model_cover 0 0 410 [(0, .ref r0), (1, .int x1), (2, .int x2)] [.int s0, .int s1, .ref sr2] M (fun r M2 => r = .inl (some (.int res)) ∧ M2 = M')) : ∀ (r0 : Nat) (x1 : Int32) (x2 : Int32) (x3 : Int32) (x4 : Int32) (l5 : Int64) (l7 : Int64) (s0 : Int32) (sl0 : Int64) (s1 : Int32) (sr2 : Nat) (M : am_M), a_Model_cover_0 rc r0 x1 x2 x3 x4 l5 l7 s0 sl0 s1 sr2 M = some (res, M') → AW u_Model_cover R_Model_cover 0 0 22 [(0, .ref r0), (1, .int x1), (2, .int x2)] [] M (fun r M2 => r = .inl (some (.int res)) ∧ M2 = M') := by
  intro r0 x1 x2 x3 x4 l5 l7 s0 sl0 s1 sr2 M h
  unfold a_Model_cover_0 at h
  refine aw_iload_n d_Model_cover_22 rfl rfl ?_
  refine aw_bipush (v := 12) d_Model_cover_23 (by decide) ?_
  refine aw_icmp_ge (tgt := 53) d_Model_cover_25 (by decide) (fun hc => ?_) (fun hc => ?_)
  · rw [if_pos hc] at h
    refine aw_iconst (v := 0) d_Model_cover_53 (by decide) ?_
    refine aw_istore_n (ls' := [(2, .int _), (0, .ref _), (1, .int _)]) d_Model_cover_54 rfl (Nat.le_of_ble_eq_true rfl) rfl ?_
    exact aw_pick [1, 2, 0] rfl (ih_2 _ _ _ _ _ _ _ _ _ _ _ _ h)
  · rw [if_neg hc] at h
    refine aw_iload_n d_Model_cover_28 rfl rfl ?_
    refine aw_aload_n d_Model_cover_29 rfl rfl ?_
    obtain ⟨t30, e_t30, h⟩ := q_bind h
    refine aw_gtr d_Model_cover_30 fl_Model_27 (Or.inr ⟨_, rfl⟩) e_t30 ?_
    refine aw_iload_n d_Model_cover_33 rfl rfl ?_
    obtain ⟨t34, e_t34, h⟩ := q_bind h
    refine aw_ldz d_Model_cover_34 e_t34 ?_
    refine aw_if_eq (tgt := 44) d_Model_cover_35 (by decide) (fun hc => ?_) (fun hc => ?_)
    · rw [if_pos hc] at h
      refine aw_iconst (v := 0) d_Model_cover_44 (by decide) ?_
      exact aw_pick [0, 2] rfl (ih_1 _ _ _ _ _ _ _ _ _ _ _ _ h)
    · rw [if_neg hc] at h
      refine aw_iconst (v := 1) d_Model_cover_38 (by decide) ?_
      refine aw_iload_n d_Model_cover_39 rfl rfl ?_
      refine aw_ishl d_Model_cover_40 ?_
      refine aw_goto (tgt := 45) d_Model_cover_41 (by decide) ?_
      exact aw_pick [0, 2] rfl (ih_1 _ _ _ _ _ _ _ _ _ _ _ _ h)
set_option maxHeartbeats 4000000 in
theorem s_Model_cover_1 {rc : Nat → Nat → Int32 → Int32 → Int32 → Int32 → Int64 → Int64 → Int32 → Int64 → Int32 → Nat → am_M → Option (Int32 × am_M)} {res : Int32} {M' : am_M} (ih_0 : ∀ (r0 : Nat) (x1 : Int32) (x2 : Int32) (x3 : Int32) (x4 : Int32) (l5 : Int64) (l7 : Int64) (s0 : Int32) (sl0 : Int64) (s1 : Int32) (sr2 : Nat) (M : am_M), rc 0 r0 x1 x2 x3 x4 l5 l7 s0 sl0 s1 sr2 M = some (res, M') → AW u_Model_cover R_Model_cover 0 0 22 [(0, .ref r0), (1, .int x1), (2, .int x2)] [] M (fun r M2 => r = .inl (some (.int res)) ∧ M2 = M')) (ih_1 : ∀ (r0 : Nat) (x1 : Int32) (x2 : Int32) (x3 : Int32) (x4 : Int32) (l5 : Int64) (l7 : Int64) (s0 : Int32) (sl0 : Int64) (s1 : Int32) (sr2 : Nat) (M : am_M), rc 1 r0 x1 x2 x3 x4 l5 l7 s0 sl0 s1 sr2 M = some (res, M') → AW u_Model_cover R_Model_cover 0 0 45 [(0, .ref r0), (2, .int x2)] [.int s0, .int s1] M (fun r M2 => r = .inl (some (.int res)) ∧ M2 = M')) (ih_2 : ∀ (r0 : Nat) (x1 : Int32) (x2 : Int32) (x3 : Int32) (x4 : Int32) (l5 : Int64) (l7 : Int64) (s0 : Int32) (sl0 : Int64) (s1 : Int32) (sr2 : Nat) (M : am_M), rc 2 r0 x1 x2 x3 x4 l5 l7 s0 sl0 s1 sr2 M = some (res, M') → AW u_Model_cover R_Model_cover 0 0 55 [(0, .ref r0), (1, .int x1), (2, .int x2)] [] M (fun r M2 => r = .inl (some (.int res)) ∧ M2 = M')) (ih_3 : ∀ (r0 : Nat) (x1 : Int32) (x2 : Int32) (x3 : Int32) (x4 : Int32) (l5 : Int64) (l7 : Int64) (s0 : Int32) (sl0 : Int64) (s1 : Int32) (sr2 : Nat) (M : am_M), rc 3 r0 x1 x2 x3 x4 l5 l7 s0 sl0 s1 sr2 M = some (res, M') → AW u_Model_cover R_Model_cover 0 0 78 [(0, .ref r0), (1, .int x1), (2, .int x2)] [.long sl0, .int s1, .ref sr2] M (fun r M2 => r = .inl (some (.int res)) ∧ M2 = M')) (ih_4 : ∀ (r0 : Nat) (x1 : Int32) (x2 : Int32) (x3 : Int32) (x4 : Int32) (l5 : Int64) (l7 : Int64) (s0 : Int32) (sl0 : Int64) (s1 : Int32) (sr2 : Nat) (M : am_M), rc 4 r0 x1 x2 x3 x4 l5 l7 s0 sl0 s1 sr2 M = some (res, M') → AW u_Model_cover R_Model_cover 0 0 94 [(0, .ref r0), (1, .int x1), (2, .int x2)] [] M (fun r M2 => r = .inl (some (.int res)) ∧ M2 = M')) (ih_5 : ∀ (r0 : Nat) (x1 : Int32) (x2 : Int32) (x3 : Int32) (x4 : Int32) (l5 : Int64) (l7 : Int64) (s0 : Int32) (sl0 : Int64) (s1 : Int32) (sr2 : Nat) (M : am_M), rc 5 r0 x1 x2 x3 x4 l5 l7 s0 sl0 s1 sr2 M = some (res, M') → AW u_Model_cover R_Model_cover 0 0 104 [(0, .ref r0), (1, .int x1), (2, .int x2), (3, .int x3)] [] M (fun r M2 => r = .inl (some (.int res)) ∧ M2 = M')) (ih_6 : ∀ (r0 : Nat) (x1 : Int32) (x2 : Int32) (x3 : Int32) (x4 : Int32) (l5 : Int64) (l7 : Int64) (s0 : Int32) (sl0 : Int64) (s1 : Int32) (sr2 : Nat) (M : am_M), rc 6 r0 x1 x2 x3 x4 l5 l7 s0 sl0 s1 sr2 M = some (res, M') → AW u_Model_cover R_Model_cover 0 0 143 [(0, .ref r0), (1, .int x1), (2, .int x2), (3, .int x3)] [] M (fun r M2 => r = .inl (some (.int res)) ∧ M2 = M')) (ih_7 : ∀ (r0 : Nat) (x1 : Int32) (x2 : Int32) (x3 : Int32) (x4 : Int32) (l5 : Int64) (l7 : Int64) (s0 : Int32) (sl0 : Int64) (s1 : Int32) (sr2 : Nat) (M : am_M), rc 7 r0 x1 x2 x3 x4 l5 l7 s0 sl0 s1 sr2 M = some (res, M') → AW u_Model_cover R_Model_cover 0 0 288 [(0, .ref r0), (1, .int x1), (2, .int x2), (3, .int x3), (4, .int x4), (5, .long l5), (7, .long l7)] [] M (fun r M2 => r = .inl (some (.int res)) ∧ M2 = M')) (ih_8 : ∀ (r0 : Nat) (x1 : Int32) (x2 : Int32) (x3 : Int32) (x4 : Int32) (l5 : Int64) (l7 : Int64) (s0 : Int32) (sl0 : Int64) (s1 : Int32) (sr2 : Nat) (M : am_M), rc 8 r0 x1 x2 x3 x4 l5 l7 s0 sl0 s1 sr2 M = some (res, M') → AW u_Model_cover R_Model_cover 0 0 306 [(0, .ref r0), (1, .int x1), (2, .int x2), (3, .int x3)] [] M (fun r M2 => r = .inl (some (.int res)) ∧ M2 = M')) (ih_9 : ∀ (r0 : Nat) (x1 : Int32) (x2 : Int32) (x3 : Int32) (x4 : Int32) (l5 : Int64) (l7 : Int64) (s0 : Int32) (sl0 : Int64) (s1 : Int32) (sr2 : Nat) (M : am_M), rc 9 r0 x1 x2 x3 x4 l5 l7 s0 sl0 s1 sr2 M = some (res, M') → AW u_Model_cover R_Model_cover 0 0 314 [(0, .ref r0), (1, .int x1), (2, .int x2), (3, .int x3)] [] M (fun r M2 => r = .inl (some (.int res)) ∧ M2 = M')) (ih_10 : ∀ (r0 : Nat) (x1 : Int32) (x2 : Int32) (x3 : Int32) (x4 : Int32) (l5 : Int64) (l7 : Int64) (s0 : Int32) (sl0 : Int64) (s1 : Int32) (sr2 : Nat) (M : am_M), rc 10 r0 x1 x2 x3 x4 l5 l7 s0 sl0 s1 sr2 M = some (res, M') → AW u_Model_cover R_Model_cover 0 0 377 [(0, .ref r0), (1, .int x1), (2, .int x2)] [] M (fun r M2 => r = .inl (some (.int res)) ∧ M2 = M')) (ih_11 : ∀ (r0 : Nat) (x1 : Int32) (x2 : Int32) (x3 : Int32) (x4 : Int32) (l5 : Int64) (l7 : Int64) (s0 : Int32) (sl0 : Int64) (s1 : Int32) (sr2 : Nat) (M : am_M), rc 11 r0 x1 x2 x3 x4 l5 l7 s0 sl0 s1 sr2 M = some (res, M') → AW u_Model_cover R_Model_cover 0 0 410 [(0, .ref r0), (1, .int x1), (2, .int x2)] [.int s0, .int s1, .ref sr2] M (fun r M2 => r = .inl (some (.int res)) ∧ M2 = M')) : ∀ (r0 : Nat) (x1 : Int32) (x2 : Int32) (x3 : Int32) (x4 : Int32) (l5 : Int64) (l7 : Int64) (s0 : Int32) (sl0 : Int64) (s1 : Int32) (sr2 : Nat) (M : am_M), a_Model_cover_1 rc r0 x1 x2 x3 x4 l5 l7 s0 sl0 s1 sr2 M = some (res, M') → AW u_Model_cover R_Model_cover 0 0 45 [(0, .ref r0), (2, .int x2)] [.int s0, .int s1] M (fun r M2 => r = .inl (some (.int res)) ∧ M2 = M') := by
  intro r0 x1 x2 x3 x4 l5 l7 s0 sl0 s1 sr2 M h
  unfold a_Model_cover_1 at h
  refine aw_ior d_Model_cover_45 ?_
  refine aw_istore_n (ls' := [(1, .int _), (0, .ref _), (2, .int _)]) d_Model_cover_46 rfl (Nat.le_of_ble_eq_true rfl) rfl ?_
  refine aw_iinc (v := (x2 + (1 : Int32))) (ls' := [(2, .int _), (1, .int _), (0, .ref _)]) d_Model_cover_47 rfl rfl (Nat.le_of_ble_eq_true rfl) rfl ?_
  refine aw_goto (tgt := 22) d_Model_cover_50 (by decide) ?_
  exact aw_pick [2, 1, 0] rfl (ih_0 _ _ _ _ _ _ _ _ _ _ _ _ h)
set_option maxHeartbeats 4000000 in
theorem s_Model_cover_2 {rc : Nat → Nat → Int32 → Int32 → Int32 → Int32 → Int64 → Int64 → Int32 → Int64 → Int32 → Nat → am_M → Option (Int32 × am_M)} {res : Int32} {M' : am_M} (ih_0 : ∀ (r0 : Nat) (x1 : Int32) (x2 : Int32) (x3 : Int32) (x4 : Int32) (l5 : Int64) (l7 : Int64) (s0 : Int32) (sl0 : Int64) (s1 : Int32) (sr2 : Nat) (M : am_M), rc 0 r0 x1 x2 x3 x4 l5 l7 s0 sl0 s1 sr2 M = some (res, M') → AW u_Model_cover R_Model_cover 0 0 22 [(0, .ref r0), (1, .int x1), (2, .int x2)] [] M (fun r M2 => r = .inl (some (.int res)) ∧ M2 = M')) (ih_1 : ∀ (r0 : Nat) (x1 : Int32) (x2 : Int32) (x3 : Int32) (x4 : Int32) (l5 : Int64) (l7 : Int64) (s0 : Int32) (sl0 : Int64) (s1 : Int32) (sr2 : Nat) (M : am_M), rc 1 r0 x1 x2 x3 x4 l5 l7 s0 sl0 s1 sr2 M = some (res, M') → AW u_Model_cover R_Model_cover 0 0 45 [(0, .ref r0), (2, .int x2)] [.int s0, .int s1] M (fun r M2 => r = .inl (some (.int res)) ∧ M2 = M')) (ih_2 : ∀ (r0 : Nat) (x1 : Int32) (x2 : Int32) (x3 : Int32) (x4 : Int32) (l5 : Int64) (l7 : Int64) (s0 : Int32) (sl0 : Int64) (s1 : Int32) (sr2 : Nat) (M : am_M), rc 2 r0 x1 x2 x3 x4 l5 l7 s0 sl0 s1 sr2 M = some (res, M') → AW u_Model_cover R_Model_cover 0 0 55 [(0, .ref r0), (1, .int x1), (2, .int x2)] [] M (fun r M2 => r = .inl (some (.int res)) ∧ M2 = M')) (ih_3 : ∀ (r0 : Nat) (x1 : Int32) (x2 : Int32) (x3 : Int32) (x4 : Int32) (l5 : Int64) (l7 : Int64) (s0 : Int32) (sl0 : Int64) (s1 : Int32) (sr2 : Nat) (M : am_M), rc 3 r0 x1 x2 x3 x4 l5 l7 s0 sl0 s1 sr2 M = some (res, M') → AW u_Model_cover R_Model_cover 0 0 78 [(0, .ref r0), (1, .int x1), (2, .int x2)] [.long sl0, .int s1, .ref sr2] M (fun r M2 => r = .inl (some (.int res)) ∧ M2 = M')) (ih_4 : ∀ (r0 : Nat) (x1 : Int32) (x2 : Int32) (x3 : Int32) (x4 : Int32) (l5 : Int64) (l7 : Int64) (s0 : Int32) (sl0 : Int64) (s1 : Int32) (sr2 : Nat) (M : am_M), rc 4 r0 x1 x2 x3 x4 l5 l7 s0 sl0 s1 sr2 M = some (res, M') → AW u_Model_cover R_Model_cover 0 0 94 [(0, .ref r0), (1, .int x1), (2, .int x2)] [] M (fun r M2 => r = .inl (some (.int res)) ∧ M2 = M')) (ih_5 : ∀ (r0 : Nat) (x1 : Int32) (x2 : Int32) (x3 : Int32) (x4 : Int32) (l5 : Int64) (l7 : Int64) (s0 : Int32) (sl0 : Int64) (s1 : Int32) (sr2 : Nat) (M : am_M), rc 5 r0 x1 x2 x3 x4 l5 l7 s0 sl0 s1 sr2 M = some (res, M') → AW u_Model_cover R_Model_cover 0 0 104 [(0, .ref r0), (1, .int x1), (2, .int x2), (3, .int x3)] [] M (fun r M2 => r = .inl (some (.int res)) ∧ M2 = M')) (ih_6 : ∀ (r0 : Nat) (x1 : Int32) (x2 : Int32) (x3 : Int32) (x4 : Int32) (l5 : Int64) (l7 : Int64) (s0 : Int32) (sl0 : Int64) (s1 : Int32) (sr2 : Nat) (M : am_M), rc 6 r0 x1 x2 x3 x4 l5 l7 s0 sl0 s1 sr2 M = some (res, M') → AW u_Model_cover R_Model_cover 0 0 143 [(0, .ref r0), (1, .int x1), (2, .int x2), (3, .int x3)] [] M (fun r M2 => r = .inl (some (.int res)) ∧ M2 = M')) (ih_7 : ∀ (r0 : Nat) (x1 : Int32) (x2 : Int32) (x3 : Int32) (x4 : Int32) (l5 : Int64) (l7 : Int64) (s0 : Int32) (sl0 : Int64) (s1 : Int32) (sr2 : Nat) (M : am_M), rc 7 r0 x1 x2 x3 x4 l5 l7 s0 sl0 s1 sr2 M = some (res, M') → AW u_Model_cover R_Model_cover 0 0 288 [(0, .ref r0), (1, .int x1), (2, .int x2), (3, .int x3), (4, .int x4), (5, .long l5), (7, .long l7)] [] M (fun r M2 => r = .inl (some (.int res)) ∧ M2 = M')) (ih_8 : ∀ (r0 : Nat) (x1 : Int32) (x2 : Int32) (x3 : Int32) (x4 : Int32) (l5 : Int64) (l7 : Int64) (s0 : Int32) (sl0 : Int64) (s1 : Int32) (sr2 : Nat) (M : am_M), rc 8 r0 x1 x2 x3 x4 l5 l7 s0 sl0 s1 sr2 M = some (res, M') → AW u_Model_cover R_Model_cover 0 0 306 [(0, .ref r0), (1, .int x1), (2, .int x2), (3, .int x3)] [] M (fun r M2 => r = .inl (some (.int res)) ∧ M2 = M')) (ih_9 : ∀ (r0 : Nat) (x1 : Int32) (x2 : Int32) (x3 : Int32) (x4 : Int32) (l5 : Int64) (l7 : Int64) (s0 : Int32) (sl0 : Int64) (s1 : Int32) (sr2 : Nat) (M : am_M), rc 9 r0 x1 x2 x3 x4 l5 l7 s0 sl0 s1 sr2 M = some (res, M') → AW u_Model_cover R_Model_cover 0 0 314 [(0, .ref r0), (1, .int x1), (2, .int x2), (3, .int x3)] [] M (fun r M2 => r = .inl (some (.int res)) ∧ M2 = M')) (ih_10 : ∀ (r0 : Nat) (x1 : Int32) (x2 : Int32) (x3 : Int32) (x4 : Int32) (l5 : Int64) (l7 : Int64) (s0 : Int32) (sl0 : Int64) (s1 : Int32) (sr2 : Nat) (M : am_M), rc 10 r0 x1 x2 x3 x4 l5 l7 s0 sl0 s1 sr2 M = some (res, M') → AW u_Model_cover R_Model_cover 0 0 377 [(0, .ref r0), (1, .int x1), (2, .int x2)] [] M (fun r M2 => r = .inl (some (.int res)) ∧ M2 = M')) (ih_11 : ∀ (r0 : Nat) (x1 : Int32) (x2 : Int32) (x3 : Int32) (x4 : Int32) (l5 : Int64) (l7 : Int64) (s0 : Int32) (sl0 : Int64) (s1 : Int32) (sr2 : Nat) (M : am_M), rc 11 r0 x1 x2 x3 x4 l5 l7 s0 sl0 s1 sr2 M = some (res, M') → AW u_Model_cover R_Model_cover 0 0 410 [(0, .ref r0), (1, .int x1), (2, .int x2)] [.int s0, .int s1, .ref sr2] M (fun r M2 => r = .inl (some (.int res)) ∧ M2 = M')) : ∀ (r0 : Nat) (x1 : Int32) (x2 : Int32) (x3 : Int32) (x4 : Int32) (l5 : Int64) (l7 : Int64) (s0 : Int32) (sl0 : Int64) (s1 : Int32) (sr2 : Nat) (M : am_M), a_Model_cover_2 rc r0 x1 x2 x3 x4 l5 l7 s0 sl0 s1 sr2 M = some (res, M') → AW u_Model_cover R_Model_cover 0 0 55 [(0, .ref r0), (1, .int x1), (2, .int x2)] [] M (fun r M2 => r = .inl (some (.int res)) ∧ M2 = M') := by
  intro r0 x1 x2 x3 x4 l5 l7 s0 sl0 s1 sr2 M h
  unfold a_Model_cover_2 at h
  refine aw_iload_n d_Model_cover_55 rfl rfl ?_
  refine aw_sipush (v := 4096) d_Model_cover_56 (by decide) ?_
  refine aw_icmp_ge (tgt := 85) d_Model_cover_59 (by decide) (fun hc => ?_) (fun hc => ?_)
  · rw [if_pos hc] at h
    refine aw_aload_n d_Model_cover_85 rfl rfl ?_
    obtain ⟨t86, e_t86, h⟩ := q_bind h
    refine aw_gtr d_Model_cover_86 fl_Model_137 (Or.inr ⟨_, rfl⟩) e_t86 ?_
    refine aw_iconst (v := 0) d_Model_cover_89 (by decide) ?_
    refine aw_lconst (v := 0) d_Model_cover_90 (by decide) ?_
    obtain ⟨M91, e_M91, h⟩ := q_bind h
    refine aw_stl d_Model_cover_91 e_M91 ?_
    refine aw_iconst (v := 0) d_Model_cover_92 (by decide) ?_
    refine aw_istore_n (ls' := [(2, .int _), (0, .ref _), (1, .int _)]) d_Model_cover_93 rfl (Nat.le_of_ble_eq_true rfl) rfl ?_
    exact aw_pick [1, 2, 0] rfl (ih_4 _ _ _ _ _ _ _ _ _ _ _ _ h)
  · rw [if_neg hc] at h
    refine aw_aload_n d_Model_cover_62 rfl rfl ?_
    obtain ⟨t63, e_t63, h⟩ := q_bind h
    refine aw_gtr d_Model_cover_63 fl_Model_130 (Or.inr ⟨_, rfl⟩) e_t63 ?_
    refine aw_iload_n d_Model_cover_66 rfl rfl ?_
    refine aw_iload_n d_Model_cover_67 rfl rfl ?_
    refine aw_if_ne (tgt := 75) d_Model_cover_68 (by decide) (fun hc => ?_) (fun hc => ?_)
    · rw [if_neg hc] at h
      refine aw_ldc2 (v := (-1)) d_Model_cover_75 (List.mem_of_getElem? (i := 1316) (by decide +kernel)) ?_
      exact aw_pick [0, 1, 2] rfl (ih_3 _ _ _ _ _ _ _ _ _ _ _ _ h)
    · rw [if_pos hc] at h
      refine aw_lconst (v := 0) d_Model_cover_71 (by decide) ?_
      refine aw_goto (tgt := 78) d_Model_cover_72 (by decide) ?_
      exact aw_pick [0, 1, 2] rfl (ih_3 _ _ _ _ _ _ _ _ _ _ _ _ h)
set_option maxHeartbeats 4000000 in
theorem s_Model_cover_3 {rc : Nat → Nat → Int32 → Int32 → Int32 → Int32 → Int64 → Int64 → Int32 → Int64 → Int32 → Nat → am_M → Option (Int32 × am_M)} {res : Int32} {M' : am_M} (ih_0 : ∀ (r0 : Nat) (x1 : Int32) (x2 : Int32) (x3 : Int32) (x4 : Int32) (l5 : Int64) (l7 : Int64) (s0 : Int32) (sl0 : Int64) (s1 : Int32) (sr2 : Nat) (M : am_M), rc 0 r0 x1 x2 x3 x4 l5 l7 s0 sl0 s1 sr2 M = some (res, M') → AW u_Model_cover R_Model_cover 0 0 22 [(0, .ref r0), (1, .int x1), (2, .int x2)] [] M (fun r M2 => r = .inl (some (.int res)) ∧ M2 = M')) (ih_1 : ∀ (r0 : Nat) (x1 : Int32) (x2 : Int32) (x3 : Int32) (x4 : Int32) (l5 : Int64) (l7 : Int64) (s0 : Int32) (sl0 : Int64) (s1 : Int32) (sr2 : Nat) (M : am_M), rc 1 r0 x1 x2 x3 x4 l5 l7 s0 sl0 s1 sr2 M = some (res, M') → AW u_Model_cover R_Model_cover 0 0 45 [(0, .ref r0), (2, .int x2)] [.int s0, .int s1] M (fun r M2 => r = .inl (some (.int res)) ∧ M2 = M')) (ih_2 : ∀ (r0 : Nat) (x1 : Int32) (x2 : Int32) (x3 : Int32) (x4 : Int32) (l5 : Int64) (l7 : Int64) (s0 : Int32) (sl0 : Int64) (s1 : Int32) (sr2 : Nat) (M : am_M), rc 2 r0 x1 x2 x3 x4 l5 l7 s0 sl0 s1 sr2 M = some (res, M') → AW u_Model_cover R_Model_cover 0 0 55 [(0, .ref r0), (1, .int x1), (2, .int x2)] [] M (fun r M2 => r = .inl (some (.int res)) ∧ M2 = M')) (ih_3 : ∀ (r0 : Nat) (x1 : Int32) (x2 : Int32) (x3 : Int32) (x4 : Int32) (l5 : Int64) (l7 : Int64) (s0 : Int32) (sl0 : Int64) (s1 : Int32) (sr2 : Nat) (M : am_M), rc 3 r0 x1 x2 x3 x4 l5 l7 s0 sl0 s1 sr2 M = some (res, M') → AW u_Model_cover R_Model_cover 0 0 78 [(0, .ref r0), (1, .int x1), (2, .int x2)] [.long sl0, .int s1, .ref sr2] M (fun r M2 => r = .inl (some (.int res)) ∧ M2 = M')) (ih_4 : ∀ (r0 : Nat) (x1 : Int32) (x2 : Int32) (x3 : Int32) (x4 : Int32) (l5 : Int64) (l7 : Int64) (s0 : Int32) (sl0 : Int64) (s1 : Int32) (sr2 : Nat) (M : am_M), rc 4 r0 x1 x2 x3 x4 l5 l7 s0 sl0 s1 sr2 M = some (res, M') → AW u_Model_cover R_Model_cover 0 0 94 [(0, .ref r0), (1, .int x1), (2, .int x2)] [] M (fun r M2 => r = .inl (some (.int res)) ∧ M2 = M')) (ih_5 : ∀ (r0 : Nat) (x1 : Int32) (x2 : Int32) (x3 : Int32) (x4 : Int32) (l5 : Int64) (l7 : Int64) (s0 : Int32) (sl0 : Int64) (s1 : Int32) (sr2 : Nat) (M : am_M), rc 5 r0 x1 x2 x3 x4 l5 l7 s0 sl0 s1 sr2 M = some (res, M') → AW u_Model_cover R_Model_cover 0 0 104 [(0, .ref r0), (1, .int x1), (2, .int x2), (3, .int x3)] [] M (fun r M2 => r = .inl (some (.int res)) ∧ M2 = M')) (ih_6 : ∀ (r0 : Nat) (x1 : Int32) (x2 : Int32) (x3 : Int32) (x4 : Int32) (l5 : Int64) (l7 : Int64) (s0 : Int32) (sl0 : Int64) (s1 : Int32) (sr2 : Nat) (M : am_M), rc 6 r0 x1 x2 x3 x4 l5 l7 s0 sl0 s1 sr2 M = some (res, M') → AW u_Model_cover R_Model_cover 0 0 143 [(0, .ref r0), (1, .int x1), (2, .int x2), (3, .int x3)] [] M (fun r M2 => r = .inl (some (.int res)) ∧ M2 = M')) (ih_7 : ∀ (r0 : Nat) (x1 : Int32) (x2 : Int32) (x3 : Int32) (x4 : Int32) (l5 : Int64) (l7 : Int64) (s0 : Int32) (sl0 : Int64) (s1 : Int32) (sr2 : Nat) (M : am_M), rc 7 r0 x1 x2 x3 x4 l5 l7 s0 sl0 s1 sr2 M = some (res, M') → AW u_Model_cover R_Model_cover 0 0 288 [(0, .ref r0), (1, .int x1), (2, .int x2), (3, .int x3), (4, .int x4), (5, .long l5), (7, .long l7)] [] M (fun r M2 => r = .inl (some (.int res)) ∧ M2 = M')) (ih_8 : ∀ (r0 : Nat) (x1 : Int32) (x2 : Int32) (x3 : Int32) (x4 : Int32) (l5 : Int64) (l7 : Int64) (s0 : Int32) (sl0 : Int64) (s1 : Int32) (sr2 : Nat) (M : am_M), rc 8 r0 x1 x2 x3 x4 l5 l7 s0 sl0 s1 sr2 M = some (res, M') → AW u_Model_cover R_Model_cover 0 0 306 [(0, .ref r0), (1, .int x1), (2, .int x2), (3, .int x3)] [] M (fun r M2 => r = .inl (some (.int res)) ∧ M2 = M')) (ih_9 : ∀ (r0 : Nat) (x1 : Int32) (x2 : Int32) (x3 : Int32) (x4 : Int32) (l5 : Int64) (l7 : Int64) (s0 : Int32) (sl0 : Int64) (s1 : Int32) (sr2 : Nat) (M : am_M), rc 9 r0 x1 x2 x3 x4 l5 l7 s0 sl0 s1 sr2 M = some (res, M') → AW u_Model_cover R_Model_cover 0 0 314 [(0, .ref r0), (1, .int x1), (2, .int x2), (3, .int x3)] [] M (fun r M2 => r = .inl (some (.int res)) ∧ M2 = M')) (ih_10 : ∀ (r0 : Nat) (x1 : Int32) (x2 : Int32) (x3 : Int32) (x4 : Int32) (l5 : Int64) (l7 : Int64) (s0 : Int32) (sl0 : Int64) (s1 : Int32) (sr2 : Nat) (M : am_M), rc 10 r0 x1 x2 x3 x4 l5 l7 s0 sl0 s1 sr2 M = some (res, M') → AW u_Model_cover R_Model_cover 0 0 377 [(0, .ref r0), (1, .int x1), (2, .int x2)] [] M (fun r M2 => r = .inl (some (.int res)) ∧ M2 = M')) (ih_11 : ∀ (r0 : Nat) (x1 : Int32) (x2 : Int32) (x3 : Int32) (x4 : Int32) (l5 : Int64) (l7 : Int64) (s0 : Int32) (sl0 : Int64) (s1 : Int32) (sr2 : Nat) (M : am_M), rc 11 r0 x1 x2 x3 x4 l5 l7 s0 sl0 s1 sr2 M = some (res, M') → AW u_Model_cover R_Model_cover 0 0 410 [(0, .ref r0), (1, .int x1), (2, .int x2)] [.int s0, .int s1, .ref sr2] M (fun r M2 => r = .inl (some (.int res)) ∧ M2 = M')) : ∀ (r0 : Nat) (x1 : Int32) (x2 : Int32) (x3 : Int32) (x4 : Int32) (l5 : Int64) (l7 : Int64) (s0 : Int32) (sl0 : Int64) (s1 : Int32) (sr2 : Nat) (M : am_M), a_Model_cover_3 rc r0 x1 x2 x3 x4 l5 l7 s0 sl0 s1 sr2 M = some (res, M') → AW u_Model_cover R_Model_cover 0 0 78 [(0, .ref r0), (1, .int x1), (2, .int x2)] [.long sl0, .int s1, .ref sr2] M (fun r M2 => r = .inl (some (.int res)) ∧ M2 = M') := by
  intro r0 x1 x2 x3 x4 l5 l7 s0 sl0 s1 sr2 M h
  unfold a_Model_cover_3 at h
  obtain ⟨M78, e_M78, h⟩ := q_bind h
  refine aw_stl d_Model_cover_78 e_M78 ?_
  refine aw_iinc (v := (x2 + (1 : Int32))) (ls' := [(2, .int _), (0, .ref _), (1, .int _)]) d_Model_cover_79 rfl rfl (Nat.le_of_ble_eq_true rfl) rfl ?_
  refine aw_goto (tgt := 55) d_Model_cover_82 (by decide) ?_
  exact aw_pick [1, 2, 0] rfl (ih_2 _ _ _ _ _ _ _ _ _ _ _ _ h)
set_option maxHeartbeats 4000000 in
theorem s_Model_cover_4 {rc : Nat → Nat → Int32 → Int32 → Int32 → Int32 → Int64 → Int64 → Int32 → Int64 → Int32 → Nat → am_M → Option (Int32 × am_M)} {res : Int32} {M' : am_M} (ih_0 : ∀ (r0 : Nat) (x1 : Int32) (x2 : Int32) (x3 : Int32) (x4 : Int32) (l5 : Int64) (l7 : Int64) (s0 : Int32) (sl0 : Int64) (s1 : Int32) (sr2 : Nat) (M : am_M), rc 0 r0 x1 x2 x3 x4 l5 l7 s0 sl0 s1 sr2 M = some (res, M') → AW u_Model_cover R_Model_cover 0 0 22 [(0, .ref r0), (1, .int x1), (2, .int x2)] [] M (fun r M2 => r = .inl (some (.int res)) ∧ M2 = M')) (ih_1 : ∀ (r0 : Nat) (x1 : Int32) (x2 : Int32) (x3 : Int32) (x4 : Int32) (l5 : Int64) (l7 : Int64) (s0 : Int32) (sl0 : Int64) (s1 : Int32) (sr2 : Nat) (M : am_M), rc 1 r0 x1 x2 x3 x4 l5 l7 s0 sl0 s1 sr2 M = some (res, M') → AW u_Model_cover R_Model_cover 0 0 45 [(0, .ref r0), (2, .int x2)] [.int s0, .int s1] M (fun r M2 => r = .inl (some (.int res)) ∧ M2 = M')) (ih_2 : ∀ (r0 : Nat) (x1 : Int32) (x2 : Int32) (x3 : Int32) (x4 : Int32) (l5 : Int64) (l7 : Int64) (s0 : Int32) (sl0 : Int64) (s1 : Int32) (sr2 : Nat) (M : am_M), rc 2 r0 x1 x2 x3 x4 l5 l7 s0 sl0 s1 sr2 M = some (res, M') → AW u_Model_cover R_Model_cover 0 0 55 [(0, .ref r0), (1, .int x1), (2, .int x2)] [] M (fun r M2 => r = .inl (some (.int res)) ∧ M2 = M')) (ih_3 : ∀ (r0 : Nat) (x1 : Int32) (x2 : Int32) (x3 : Int32) (x4 : Int32) (l5 : Int64) (l7 : Int64) (s0 : Int32) (sl0 : Int64) (s1 : Int32) (sr2 : Nat) (M : am_M), rc 3 r0 x1 x2 x3 x4 l5 l7 s0 sl0 s1 sr2 M = some (res, M') → AW u_Model_cover R_Model_cover 0 0 78 [(0, .ref r0), (1, .int x1), (2, .int x2)] [.long sl0, .int s1, .ref sr2] M (fun r M2 => r = .inl (some (.int res)) ∧ M2 = M')) (ih_4 : ∀ (r0 : Nat) (x1 : Int32) (x2 : Int32) (x3 : Int32) (x4 : Int32) (l5 : Int64) (l7 : Int64) (s0 : Int32) (sl0 : Int64) (s1 : Int32) (sr2 : Nat) (M : am_M), rc 4 r0 x1 x2 x3 x4 l5 l7 s0 sl0 s1 sr2 M = some (res, M') → AW u_Model_cover R_Model_cover 0 0 94 [(0, .ref r0), (1, .int x1), (2, .int x2)] [] M (fun r M2 => r = .inl (some (.int res)) ∧ M2 = M')) (ih_5 : ∀ (r0 : Nat) (x1 : Int32) (x2 : Int32) (x3 : Int32) (x4 : Int32) (l5 : Int64) (l7 : Int64) (s0 : Int32) (sl0 : Int64) (s1 : Int32) (sr2 : Nat) (M : am_M), rc 5 r0 x1 x2 x3 x4 l5 l7 s0 sl0 s1 sr2 M = some (res, M') → AW u_Model_cover R_Model_cover 0 0 104 [(0, .ref r0), (1, .int x1), (2, .int x2), (3, .int x3)] [] M (fun r M2 => r = .inl (some (.int res)) ∧ M2 = M')) (ih_6 : ∀ (r0 : Nat) (x1 : Int32) (x2 : Int32) (x3 : Int32) (x4 : Int32) (l5 : Int64) (l7 : Int64) (s0 : Int32) (sl0 : Int64) (s1 : Int32) (sr2 : Nat) (M : am_M), rc 6 r0 x1 x2 x3 x4 l5 l7 s0 sl0 s1 sr2 M = some (res, M') → AW u_Model_cover R_Model_cover 0 0 143 [(0, .ref r0), (1, .int x1), (2, .int x2), (3, .int x3)] [] M (fun r M2 => r = .inl (some (.int res)) ∧ M2 = M')) (ih_7 : ∀ (r0 : Nat) (x1 : Int32) (x2 : Int32) (x3 : Int32) (x4 : Int32) (l5 : Int64) (l7 : Int64) (s0 : Int32) (sl0 : Int64) (s1 : Int32) (sr2 : Nat) (M : am_M), rc 7 r0 x1 x2 x3 x4 l5 l7 s0 sl0 s1 sr2 M = some (res, M') → AW u_Model_cover R_Model_cover 0 0 288 [(0, .ref r0), (1, .int x1), (2, .int x2), (3, .int x3), (4, .int x4), (5, .long l5), (7, .long l7)] [] M (fun r M2 => r = .inl (some (.int res)) ∧ M2 = M')) (ih_8 : ∀ (r0 : Nat) (x1 : Int32) (x2 : Int32) (x3 : Int32) (x4 : Int32) (l5 : Int64) (l7 : Int64) (s0 : Int32) (sl0 : Int64) (s1 : Int32) (sr2 : Nat) (M : am_M), rc 8 r0 x1 x2 x3 x4 l5 l7 s0 sl0 s1 sr2 M = some (res, M') → AW u_Model_cover R_Model_cover 0 0 306 [(0, .ref r0), (1, .int x1), (2, .int x2), (3, .int x3)] [] M (fun r M2 => r = .inl (some (.int res)) ∧ M2 = M')) (ih_9 : ∀ (r0 : Nat) (x1 : Int32) (x2 : Int32) (x3 : Int32) (x4 : Int32) (l5 : Int64) (l7 : Int64) (s0 : Int32) (sl0 : Int64) (s1 : Int32) (sr2 : Nat) (M : am_M), rc 9 r0 x1 x2 x3 x4 l5 l7 s0 sl0 s1 sr2 M = some (res, M') → AW u_Model_cover R_Model_cover 0 0 314 [(0, .ref r0), (1, .int x1), (2, .int x2), (3, .int x3)] [] M (fun r M2 => r = .inl (some (.int res)) ∧ M2 = M')) (ih_10 : ∀ (r0 : Nat) (x1 : Int32) (x2 : Int32) (x3 : Int32) (x4 : Int32) (l5 : Int64) (l7 : Int64) (s0 : Int32) (sl0 : Int64) (s1 : Int32) (sr2 : Nat) (M : am_M), rc 10 r0 x1 x2 x3 x4 l5 l7 s0 sl0 s1 sr2 M = some (res, M') → AW u_Model_cover R_Model_cover 0 0 377 [(0, .ref r0), (1, .int x1), (2, .int x2)] [] M (fun r M2 => r = .inl (some (.int res)) ∧ M2 = M')) (ih_11 : ∀ (r0 : Nat) (x1 : Int32) (x2 : Int32) (x3 : Int32) (x4 : Int32) (l5 : Int64) (l7 : Int64) (s0 : Int32) (sl0 : Int64) (s1 : Int32) (sr2 : Nat) (M : am_M), rc 11 r0 x1 x2 x3 x4 l5 l7 s0 sl0 s1 sr2 M = some (res, M') → AW u_Model_cover R_Model_cover 0 0 410 [(0, .ref r0), (1, .int x1), (2, .int x2)] [.int s0, .int s1, .ref sr2] M (fun r M2 => r = .inl (some (.int res)) ∧ M2 = M')) : ∀ (r0 : Nat) (x1 : Int32) (x2 : Int32) (x3 : Int32) (x4 : Int32) (l5 : Int64) (l7 : Int64) (s0 : Int32) (sl0 : Int64) (s1 : Int32) (sr2 : Nat) (M : am_M), a_Model_cover_4 rc r0 x1 x2 x3 x4 l5 l7 s0 sl0 s1 sr2 M = some (res, M') → AW u_Model_cover R_Model_cover 0 0 94 [(0, .ref r0), (1, .int x1), (2, .int x2)] [] M (fun r M2 => r = .inl (some (.int res)) ∧ M2 = M') := by
  intro r0 x1 x2 x3 x4 l5 l7 s0 sl0 s1 sr2 M h
  unfold a_Model_cover_4 at h
  refine aw_iload_n d_Model_cover_94 rfl rfl ?_
  refine aw_aload_n d_Model_cover_95 rfl rfl ?_
  obtain ⟨t96, e_t96, h⟩ := q_bind h
  refine aw_gti d_Model_cover_96 fl_Model_102 (Or.inl rfl) e_t96 ?_
  refine aw_icmp_ge (tgt := 357) d_Model_cover_99 (by decide) (fun hc => ?_) (fun hc => ?_)
  · rw [if_pos hc] at h
    refine aw_aload_n d_Model_cover_357 rfl rfl ?_
    obtain ⟨t358, e_t358, h⟩ := q_bind h
    refine aw_gtr d_Model_cover_358 fl_Model_130 (Or.inr ⟨_, rfl⟩) e_t358 ?_
    refine aw_iload_n d_Model_cover_361 rfl rfl ?_
    obtain ⟨t362, e_t362, h⟩ := q_bind h
    refine aw_ldl d_Model_cover_362 e_t362 ?_
    refine aw_lconst (v := 0) d_Model_cover_363 (by decide) ?_
    refine aw_lcmp d_Model_cover_364 ?_
    refine aw_if_ge (tgt := 370) d_Model_cover_365 (by decide) (fun hc => ?_) (fun hc => ?_)
    · rw [if_pos hc] at h
      refine aw_aload_n d_Model_cover_370 rfl rfl ?_
      refine aw_iconst (v := 1) d_Model_cover_371 (by decide) ?_
      obtain ⟨M372, e_M372, h⟩ := q_bind h
      refine aw_ptz d_Model_cover_372 fl_Model_161 rfl rfl e_M372 ?_
      refine aw_iconst (v := 0) d_Model_cover_375 (by decide) ?_
      refine aw_istore_n (ls' := [(2, .int _), (0, .ref _), (1, .int _)]) d_Model_cover_376 rfl (Nat.le_of_ble_eq_true rfl) rfl ?_
      exact aw_pick [1, 2, 0] rfl (ih_10 _ _ _ _ _ _ _ _ _ _ _ _ h)
    · rw [if_neg hc] at h
      refine aw_iconst (v := -1) d_Model_cover_368 (by decide) ?_
      cases h
      exact aw_ireturn d_Model_cover_369 rfl (Nat.le_of_ble_eq_true rfl) (Nat.le_of_ble_eq_true rfl) ⟨rfl, rfl⟩
  · rw [if_neg hc] at h
    refine aw_iconst (v := 0) d_Model_cover_102 (by decide) ?_
    refine aw_istore_n (ls' := [(3, .int _), (0, .ref _), (1, .int _), (2, .int _)]) d_Model_cover_103 rfl (Nat.le_of_ble_eq_true rfl) rfl ?_
    exact aw_pick [1, 2, 3, 0] rfl (ih_5 _ _ _ _ _ _ _ _ _ _ _ _ h)
set_option maxHeartbeats 4000000 in
theorem s_Model_cover_5 {rc : Nat → Nat → Int32 → Int32 → Int32 → Int32 → Int64 → Int64 → Int32 → Int64 → Int32 → Nat → am_M → Option (Int32 × am_M)} {res : Int32} {M' : am_M} (ih_0 : ∀ (r0 : Nat) (x1 : Int32) (x2 : Int32) (x3 : Int32) (x4 : Int32) (l5 : Int64) (l7 : Int64) (s0 : Int32) (sl0 : Int64) (s1 : Int32) (sr2 : Nat) (M : am_M), rc 0 r0 x1 x2 x3 x4 l5 l7 s0 sl0 s1 sr2 M = some (res, M') → AW u_Model_cover R_Model_cover 0 0 22 [(0, .ref r0), (1, .int x1), (2, .int x2)] [] M (fun r M2 => r = .inl (some (.int res)) ∧ M2 = M')) (ih_1 : ∀ (r0 : Nat) (x1 : Int32) (x2 : Int32) (x3 : Int32) (x4 : Int32) (l5 : Int64) (l7 : Int64) (s0 : Int32) (sl0 : Int64) (s1 : Int32) (sr2 : Nat) (M : am_M), rc 1 r0 x1 x2 x3 x4 l5 l7 s0 sl0 s1 sr2 M = some (res, M') → AW u_Model_cover R_Model_cover 0 0 45 [(0, .ref r0), (2, .int x2)] [.int s0, .int s1] M (fun r M2 => r = .inl (some (.int res)) ∧ M2 = M')) (ih_2 : ∀ (r0 : Nat) (x1 : Int32) (x2 : Int32) (x3 : Int32) (x4 : Int32) (l5 : Int64) (l7 : Int64) (s0 : Int32) (sl0 : Int64) (s1 : Int32) (sr2 : Nat) (M : am_M), rc 2 r0 x1 x2 x3 x4 l5 l7 s0 sl0 s1 sr2 M = some (res, M') → AW u_Model_cover R_Model_cover 0 0 55 [(0, .ref r0), (1, .int x1), (2, .int x2)] [] M (fun r M2 => r = .inl (some (.int res)) ∧ M2 = M')) (ih_3 : ∀ (r0 : Nat) (x1 : Int32) (x2 : Int32) (x3 : Int32) (x4 : Int32) (l5 : Int64) (l7 : Int64) (s0 : Int32) (sl0 : Int64) (s1 : Int32) (sr2 : Nat) (M : am_M), rc 3 r0 x1 x2 x3 x4 l5 l7 s0 sl0 s1 sr2 M = some (res, M') → AW u_Model_cover R_Model_cover 0 0 78 [(0, .ref r0), (1, .int x1), (2, .int x2)] [.long sl0, .int s1, .ref sr2] M (fun r M2 => r = .inl (some (.int res)) ∧ M2 = M')) (ih_4 : ∀ (r0 : Nat) (x1 : Int32) (x2 : Int32) (x3 : Int32) (x4 : Int32) (l5 : Int64) (l7 : Int64) (s0 : Int32) (sl0 : Int64) (s1 : Int32) (sr2 : Nat) (M : am_M), rc 4 r0 x1 x2 x3 x4 l5 l7 s0 sl0 s1 sr2 M = some (res, M') → AW u_Model_cover R_Model_cover 0 0 94 [(0, .ref r0), (1, .int x1), (2, .int x2)] [] M (fun r M2 => r = .inl (some (.int res)) ∧ M2 = M')) (ih_5 : ∀ (r0 : Nat) (x1 : Int32) (x2 : Int32) (x3 : Int32) (x4 : Int32) (l5 : Int64) (l7 : Int64) (s0 : Int32) (sl0 : Int64) (s1 : Int32) (sr2 : Nat) (M : am_M), rc 5 r0 x1 x2 x3 x4 l5 l7 s0 sl0 s1 sr2 M = some (res, M') → AW u_Model_cover R_Model_cover 0 0 104 [(0, .ref r0), (1, .int x1), (2, .int x2), (3, .int x3)] [] M (fun r M2 => r = .inl (some (.int res)) ∧ M2 = M')) (ih_6 : ∀ (r0 : Nat) (x1 : Int32) (x2 : Int32) (x3 : Int32) (x4 : Int32) (l5 : Int64) (l7 : Int64) (s0 : Int32) (sl0 : Int64) (s1 : Int32) (sr2 : Nat) (M : am_M), rc 6 r0 x1 x2 x3 x4 l5 l7 s0 sl0 s1 sr2 M = some (res, M') → AW u_Model_cover R_Model_cover 0 0 143 [(0, .ref r0), (1, .int x1), (2, .int x2), (3, .int x3)] [] M (fun r M2 => r = .inl (some (.int res)) ∧ M2 = M')) (ih_7 : ∀ (r0 : Nat) (x1 : Int32) (x2 : Int32) (x3 : Int32) (x4 : Int32) (l5 : Int64) (l7 : Int64) (s0 : Int32) (sl0 : Int64) (s1 : Int32) (sr2 : Nat) (M : am_M), rc 7 r0 x1 x2 x3 x4 l5 l7 s0 sl0 s1 sr2 M = some (res, M') → AW u_Model_cover R_Model_cover 0 0 288 [(0, .ref r0), (1, .int x1), (2, .int x2), (3, .int x3), (4, .int x4), (5, .long l5), (7, .long l7)] [] M (fun r M2 => r = .inl (some (.int res)) ∧ M2 = M')) (ih_8 : ∀ (r0 : Nat) (x1 : Int32) (x2 : Int32) (x3 : Int32) (x4 : Int32) (l5 : Int64) (l7 : Int64) (s0 : Int32) (sl0 : Int64) (s1 : Int32) (sr2 : Nat) (M : am_M), rc 8 r0 x1 x2 x3 x4 l5 l7 s0 sl0 s1 sr2 M = some (res, M') → AW u_Model_cover R_Model_cover 0 0 306 [(0, .ref r0), (1, .int x1), (2, .int x2), (3, .int x3)] [] M (fun r M2 => r = .inl (some (.int res)) ∧ M2 = M')) (ih_9 : ∀ (r0 : Nat) (x1 : Int32) (x2 : Int32) (x3 : Int32) (x4 : Int32) (l5 : Int64) (l7 : Int64) (s0 : Int32) (sl0 : Int64) (s1 : Int32) (sr2 : Nat) (M : am_M), rc 9 r0 x1 x2 x3 x4 l5 l7 s0 sl0 s1 sr2 M = some (res, M') → AW u_Model_cover R_Model_cover 0 0 314 [(0, .ref r0), (1, .int x1), (2, .int x2), (3, .int x3)] [] M (fun r M2 => r = .inl (some (.int res)) ∧ M2 = M')) (ih_10 : ∀ (r0 : Nat) (x1 : Int32) (x2 : Int32) (x3 : Int32) (x4 : Int32) (l5 : Int64) (l7 : Int64) (s0 : Int32) (sl0 : Int64) (s1 : Int32) (sr2 : Nat) (M : am_M), rc 10 r0 x1 x2 x3 x4 l5 l7 s0 sl0 s1 sr2 M = some (res, M') → AW u_Model_cover R_Model_cover 0 0 377 [(0, .ref r0), (1, .int x1), (2, .int x2)] [] M (fun r M2 => r = .inl (some (.int res)) ∧ M2 = M')) (ih_11 : ∀ (r0 : Nat) (x1 : Int32) (x2 : Int32) (x3 : Int32) (x4 : Int32) (l5 : Int64) (l7 : Int64) (s0 : Int32) (sl0 : Int64) (s1 : Int32) (sr2 : Nat) (M : am_M), rc 11 r0 x1 x2 x3 x4 l5 l7 s0 sl0 s1 sr2 M = some (res, M') → AW u_Model_cover R_Model_cover 0 0 410 [(0, .ref r0), (1, .int x1), (2, .int x2)] [.int s0, .int s1, .ref sr2] M (fun r M2 => r = .inl (some (.int res)) ∧ M2 = M')) : ∀ (r0 : Nat) (x1 : Int32) (x2 : Int32) (x3 : Int32) (x4 : Int32) (l5 : Int64) (l7 : Int64) (s0 : Int32) (sl0 : Int64) (s1 : Int32) (sr2 : Nat) (M : am_M), a_Model_cover_5 rc r0 x1 x2 x3 x4 l5 l7 s0 sl0 s1 sr2 M = some (res, M') → AW u_Model_cover R_Model_cover 0 0 104 [(0, .ref r0), (1, .int x1), (2, .int x2), (3, .int x3)] [] M (fun r M2 => r = .inl (some (.int res)) ∧ M2 = M') := by
  intro r0 x1 x2 x3 x4 l5 l7 s0 sl0 s1 sr2 M h
  unfold a_Model_cover_5 at h
  refine aw_iload_n d_Model_cover_104 rfl rfl ?_
  refine aw_sipush (v := 4096) d_Model_cover_105 (by decide) ?_
  refine aw_icmp_ge (tgt := 141) d_Model_cover_108 (by decide) (fun hc => ?_) (fun hc => ?_)
  · rw [if_pos hc] at h
    refine aw_iconst (v := 0) d_Model_cover_141 (by decide) ?_
    refine aw_istore_n (ls' := [(3, .int _), (0, .ref _), (1, .int _), (2, .int _)]) d_Model_cover_142 rfl (Nat.le_of_ble_eq_true rfl) rfl ?_
    exact aw_pick [1, 2, 3, 0] rfl (ih_6 _ _ _ _ _ _ _ _ _ _ _ _ h)
  · rw [if_neg hc] at h
    refine aw_aload_n d_Model_cover_111 rfl rfl ?_
    obtain ⟨t112, e_t112, h⟩ := q_bind h
    refine aw_gtr d_Model_cover_112 fl_Model_134 (Or.inr ⟨_, rfl⟩) e_t112 ?_
    refine aw_iload_n d_Model_cover_115 rfl rfl ?_
    refine aw_aload_n d_Model_cover_116 rfl rfl ?_
    obtain ⟨t117, e_t117, h⟩ := q_bind h
    refine aw_gtr d_Model_cover_117 fl_Model_130 (Or.inr ⟨_, rfl⟩) e_t117 ?_
    refine aw_iload_n d_Model_cover_120 rfl rfl ?_
    obtain ⟨t121, e_t121, h⟩ := q_bind h
    refine aw_ldl d_Model_cover_121 e_t121 ?_
    obtain ⟨M122, e_M122, h⟩ := q_bind h
    refine aw_stl d_Model_cover_122 e_M122 ?_
    refine aw_aload_n d_Model_cover_123 rfl rfl ?_
    obtain ⟨t124, e_t124, h⟩ := q_bind h
    refine aw_gtr d_Model_cover_124 fl_Model_140 (Or.inr ⟨_, rfl⟩) e_t124 ?_
    refine aw_iload_n d_Model_cover_127 rfl rfl ?_
    refine aw_aload_n d_Model_cover_128 rfl rfl ?_
    obtain ⟨t129, e_t129, h⟩ := q_bind h
    refine aw_gtr d_Model_cover_129 fl_Model_137 (Or.inr ⟨_, rfl⟩) e_t129 ?_
    refine aw_iload_n d_Model_cover_132 rfl rfl ?_
    obtain ⟨t133, e_t133, h⟩ := q_bind h
    refine aw_ldl d_Model_cover_133 e_t133 ?_
    obtain ⟨M134, e_M134, h⟩ := q_bind h
    refine aw_stl d_Model_cover_134 e_M134 ?_
    refine aw_iinc (v := (x3 + (1 : Int32))) (ls' := [(3, .int _), (0, .ref _), (1, .int _), (2, .int _)]) d_Model_cover_135 rfl rfl (Nat.le_of_ble_eq_true rfl) rfl ?_
    refine aw_goto (tgt := 104) d_Model_cover_138 (by decide) ?_
    exact aw_pick [1, 2, 3, 0] rfl (ih_5 _ _ _ _ _ _ _ _ _ _ _ _ h)
set_option maxHeartbeats 4000000 in
theorem s_Model_cover_6 {rc : Nat → Nat → Int32 → Int32 → Int32 → Int32 → Int64 → Int64 → Int32 → Int64 → Int32 → Nat → am_M → Option (Int32 × am_M)} {res : Int32} {M' : am_M} (ih_0 : ∀ (r0 : Nat) (x1 : Int32) (x2 : Int32) (x3 : Int32) (x4 : Int32) (l5 : Int64) (l7 : Int64) (s0 : Int32) (sl0 : Int64) (s1 : Int32) (sr2 : Nat) (M : am_M), rc 0 r0 x1 x2 x3 x4 l5 l7 s0 sl0 s1 sr2 M = some (res, M') → AW u_Model_cover R_Model_cover 0 0 22 [(0, .ref r0), (1, .int x1), (2, .int x2)] [] M (fun r M2 => r = .inl (some (.int res)) ∧ M2 = M')) (ih_1 : ∀ (r0 : Nat) (x1 : Int32) (x2 : Int32) (x3 : Int32) (x4 : Int32) (l5 : Int64) (l7 : Int64) (s0 : Int32) (sl0 : Int64) (s1 : Int32) (sr2 : Nat) (M : am_M), rc 1 r0 x1 x2 x3 x4 l5 l7 s0 sl0 s1 sr2 M = some (res, M') → AW u_Model_cover R_Model_cover 0 0 45 [(0, .ref r0), (2, .int x2)] [.int s0, .int s1] M (fun r M2 => r = .inl (some (.int res)) ∧ M2 = M')) (ih_2 : ∀ (r0 : Nat) (x1 : Int32) (x2 : Int32) (x3 : Int32) (x4 : Int32) (l5 : Int64) (l7 : Int64) (s0 : Int32) (sl0 : Int64) (s1 : Int32) (sr2 : Nat) (M : am_M), rc 2 r0 x1 x2 x3 x4 l5 l7 s0 sl0 s1 sr2 M = some (res, M') → AW u_Model_cover R_Model_cover 0 0 55 [(0, .ref r0), (1, .int x1), (2, .int x2)] [] M (fun r M2 => r = .inl (some (.int res)) ∧ M2 = M')) (ih_3 : ∀ (r0 : Nat) (x1 : Int32) (x2 : Int32) (x3 : Int32) (x4 : Int32) (l5 : Int64) (l7 : Int64) (s0 : Int32) (sl0 : Int64) (s1 : Int32) (sr2 : Nat) (M : am_M), rc 3 r0 x1 x2 x3 x4 l5 l7 s0 sl0 s1 sr2 M = some (res, M') → AW u_Model_cover R_Model_cover 0 0 78 [(0, .ref r0), (1, .int x1), (2, .int x2)] [.long sl0, .int s1, .ref sr2] M (fun r M2 => r = .inl (some (.int res)) ∧ M2 = M')) (ih_4 : ∀ (r0 : Nat) (x1 : Int32) (x2 : Int32) (x3 : Int32) (x4 : Int32) (l5 : Int64) (l7 : Int64) (s0 : Int32) (sl0 : Int64) (s1 : Int32) (sr2 : Nat) (M : am_M), rc 4 r0 x1 x2 x3 x4 l5 l7 s0 sl0 s1 sr2 M = some (res, M') → AW u_Model_cover R_Model_cover 0 0 94 [(0, .ref r0), (1, .int x1), (2, .int x2)] [] M (fun r M2 => r = .inl (some (.int res)) ∧ M2 = M')) (ih_5 : ∀ (r0 : Nat) (x1 : Int32) (x2 : Int32) (x3 : Int32) (x4 : Int32) (l5 : Int64) (l7 : Int64) (s0 : Int32) (sl0 : Int64) (s1 : Int32) (sr2 : Nat) (M : am_M), rc 5 r0 x1 x2 x3 x4 l5 l7 s0 sl0 s1 sr2 M = some (res, M') → AW u_Model_cover R_Model_cover 0 0 104 [(0, .ref r0), (1, .int x1), (2, .int x2), (3, .int x3)] [] M (fun r M2 => r = .inl (some (.int res)) ∧ M2 = M')) (ih_6 : ∀ (r0 : Nat) (x1 : Int32) (x2 : Int32) (x3 : Int32) (x4 : Int32) (l5 : Int64) (l7 : Int64) (s0 : Int32) (sl0 : Int64) (s1 : Int32) (sr2 : Nat) (M : am_M), rc 6 r0 x1 x2 x3 x4 l5 l7 s0 sl0 s1 sr2 M = some (res, M') → AW u_Model_cover R_Model_cover 0 0 143 [(0, .ref r0), (1, .int x1), (2, .int x2), (3, .int x3)] [] M (fun r M2 => r = .inl (some (.int res)) ∧ M2 = M')) (ih_7 : ∀ (r0 : Nat) (x1 : Int32) (x2 : Int32) (x3 : Int32) (x4 : Int32) (l5 : Int64) (l7 : Int64) (s0 : Int32) (sl0 : Int64) (s1 : Int32) (sr2 : Nat) (M : am_M), rc 7 r0 x1 x2 x3 x4 l5 l7 s0 sl0 s1 sr2 M = some (res, M') → AW u_Model_cover R_Model_cover 0 0 288 [(0, .ref r0), (1, .int x1), (2, .int x2), (3, .int x3), (4, .int x4), (5, .long l5), (7, .long l7)] [] M (fun r M2 => r = .inl (some (.int res)) ∧ M2 = M')) (ih_8 : ∀ (r0 : Nat) (x1 : Int32) (x2 : Int32) (x3 : Int32) (x4 : Int32) (l5 : Int64) (l7 : Int64) (s0 : Int32) (sl0 : Int64) (s1 : Int32) (sr2 : Nat) (M : am_M), rc 8 r0 x1 x2 x3 x4 l5 l7 s0 sl0 s1 sr2 M = some (res, M') → AW u_Model_cover R_Model_cover 0 0 306 [(0, .ref r0), (1, .int x1), (2, .int x2), (3, .int x3)] [] M (fun r M2 => r = .inl (some (.int res)) ∧ M2 = M')) (ih_9 : ∀ (r0 : Nat) (x1 : Int32) (x2 : Int32) (x3 : Int32) (x4 : Int32) (l5 : Int64) (l7 : Int64) (s0 : Int32) (sl0 : Int64) (s1 : Int32) (sr2 : Nat) (M : am_M), rc 9 r0 x1 x2 x3 x4 l5 l7 s0 sl0 s1 sr2 M = some (res, M') → AW u_Model_cover R_Model_cover 0 0 314 [(0, .ref r0), (1, .int x1), (2, .int x2), (3, .int x3)] [] M (fun r M2 => r = .inl (some (.int res)) ∧ M2 = M')) (ih_10 : ∀ (r0 : Nat) (x1 : Int32) (x2 : Int32) (x3 : Int32) (x4 : Int32) (l5 : Int64) (l7 : Int64) (s0 : Int32) (sl0 : Int64) (s1 : Int32) (sr2 : Nat) (M : am_M), rc 10 r0 x1 x2 x3 x4 l5 l7 s0 sl0 s1 sr2 M = some (res, M') → AW u_Model_cover R_Model_cover 0 0 377 [(0, .ref r0), (1, .int x1), (2, .int x2)] [] M (fun r M2 => r = .inl (some (.int res)) ∧ M2 = M')) (ih_11 : ∀ (r0 : Nat) (x1 : Int32) (x2 : Int32) (x3 : Int32) (x4 : Int32) (l5 : Int64) (l7 : Int64) (s0 : Int32) (sl0 : Int64) (s1 : Int32) (sr2 : Nat) (M : am_M), rc 11 r0 x1 x2 x3 x4 l5 l7 s0 sl0 s1 sr2 M = some (res, M') → AW u_Model_cover R_Model_cover 0 0 410 [(0, .ref r0), (1, .int x1), (2, .int x2)] [.int s0, .int s1, .ref sr2] M (fun r M2 => r = .inl (some (.int res)) ∧ M2 = M')) : ∀ (r0 : Nat) (x1 : Int32) (x2 : Int32) (x3 : Int32) (x4 : Int32) (l5 : Int64) (l7 : Int64) (s0 : Int32) (sl0 : Int64) (s1 : Int32) (sr2 : Nat) (M : am_M), a_Model_cover_6 rc r0 x1 x2 x3 x4 l5 l7 s0 sl0 s1 sr2 M = some (res, M') → AW u_Model_cover R_Model_cover 0 0 143 [(0, .ref r0), (1, .int x1), (2, .int x2), (3, .int x3)] [] M (fun r M2 => r = .inl (some (.int res)) ∧ M2 = M') := by
  intro r0 x1 x2 x3 x4 l5 l7 s0 sl0 s1 sr2 M h
  unfold a_Model_cover_6 at h
  refine aw_iload_n d_Model_cover_143 rfl rfl ?_
  refine aw_sipush (v := 4096) d_Model_cover_144 (by decide) ?_
  refine aw_icmp_ge (tgt := 312) d_Model_cover_147 (by decide) (fun hc => ?_) (fun hc => ?_)
  · rw [if_pos hc] at h
    refine aw_iconst (v := 0) d_Model_cover_312 (by decide) ?_
    refine aw_istore_n (ls' := [(3, .int _), (0, .ref _), (1, .int _), (2, .int _)]) d_Model_cover_313 rfl (Nat.le_of_ble_eq_true rfl) rfl ?_
    exact aw_pick [1, 2, 3, 0] rfl (ih_9 _ _ _ _ _ _ _ _ _ _ _ _ h)
  · rw [if_neg hc] at h
    refine aw_aload_n d_Model_cover_150 rfl rfl ?_
    obtain ⟨t151, e_t151, h⟩ := q_bind h
    refine aw_gtr d_Model_cover_151 fl_Model_130 (Or.inr ⟨_, rfl⟩) e_t151 ?_
    refine aw_iload_n d_Model_cover_154 rfl rfl ?_
    obtain ⟨t155, e_t155, h⟩ := q_bind h
    refine aw_ldl d_Model_cover_155 e_t155 ?_
    refine aw_lconst (v := 0) d_Model_cover_156 (by decide) ?_
    refine aw_lcmp d_Model_cover_157 ?_
    refine aw_if_ge (tgt := 164) d_Model_cover_158 (by decide) (fun hc => ?_) (fun hc => ?_)
    · rw [if_pos hc] at h
      refine aw_iload_n d_Model_cover_164 rfl rfl ?_
      refine aw_aload_n d_Model_cover_165 rfl rfl ?_
      obtain ⟨t166, e_t166, h⟩ := q_bind h
      refine aw_gtr d_Model_cover_166 fl_Model_121 (Or.inr ⟨_, rfl⟩) e_t166 ?_
      refine aw_iload_n d_Model_cover_169 rfl rfl ?_
      obtain ⟨t170, e_t170, h⟩ := q_bind h
      refine aw_ldi d_Model_cover_170 e_t170 ?_
      refine aw_ior d_Model_cover_171 ?_
      refine aw_istore (ls' := [(4, .int _), (0, .ref _), (1, .int _), (2, .int _), (3, .int _)]) d_Model_cover_172 (Nat.le_of_ble_eq_true rfl) rfl ?_
      refine aw_aload_n d_Model_cover_174 rfl rfl ?_
      obtain ⟨t175, e_t175, h⟩ := q_bind h
      refine aw_gtr d_Model_cover_175 fl_Model_130 (Or.inr ⟨_, rfl⟩) e_t175 ?_
      refine aw_iload_n d_Model_cover_178 rfl rfl ?_
      obtain ⟨t179, e_t179, h⟩ := q_bind h
      refine aw_ldl d_Model_cover_179 e_t179 ?_
      refine aw_aload_n d_Model_cover_180 rfl rfl ?_
      obtain ⟨t181, e_t181, h⟩ := q_bind h
      refine aw_gtr d_Model_cover_181 fl_Model_115 (Or.inr ⟨_, rfl⟩) e_t181 ?_
      refine aw_iload_n d_Model_cover_184 rfl rfl ?_
      obtain ⟨t185, e_t185, h⟩ := q_bind h
      refine aw_ldi d_Model_cover_185 e_t185 ?_
      refine aw_i2l d_Model_cover_186 ?_
      refine aw_ladd d_Model_cover_187 ?_
      refine aw_aload_n d_Model_cover_188 rfl rfl ?_
      obtain ⟨t189, e_t189, h⟩ := q_bind h
      refine aw_gtr d_Model_cover_189 fl_Model_112 (Or.inr ⟨_, rfl⟩) e_t189 ?_
      refine aw_iload_n d_Model_cover_192 rfl rfl ?_
      obtain ⟨t193, e_t193, h⟩ := q_bind h
      refine aw_ldi d_Model_cover_193 e_t193 ?_
      refine aw_i2l d_Model_cover_194 ?_
      refine aw_lsub d_Model_cover_195 ?_
      refine aw_aload_n d_Model_cover_196 rfl rfl ?_
      obtain ⟨t197, e_t197, h⟩ := q_bind h
      refine aw_gtr d_Model_cover_197 fl_Model_78 (Or.inr ⟨_, rfl⟩) e_t197 ?_
      refine aw_bipush (v := 8) d_Model_cover_200 (by decide) ?_
      obtain ⟨t202, e_t202, h⟩ := q_bind h
      refine aw_ldi d_Model_cover_202 e_t202 ?_
      refine aw_i2l d_Model_cover_203 ?_
      refine aw_iload_n d_Model_cover_204 rfl rfl ?_
      refine aw_aload_n d_Model_cover_205 rfl rfl ?_
      obtain ⟨t206, e_t206, h⟩ := q_bind h
      refine aw_gtr d_Model_cover_206 fl_Model_121 (Or.inr ⟨_, rfl⟩) e_t206 ?_
      refine aw_iload_n d_Model_cover_209 rfl rfl ?_
      obtain ⟨t210, e_t210, h⟩ := q_bind h
      refine aw_ldi d_Model_cover_210 e_t210 ?_
      refine aw_iand d_Model_cover_211 ?_
      obtain ⟨t212, e_t212, h⟩ := q_bind h
      refine aw_cS (v := (some (.int t212))) (As := [.int (x3 &&& t210)]) (rest := [.long ((t202).toInt64), .long ((t179 + ((t185).toInt64)) - ((t193).toInt64))]) (st' := [.int t212, .long ((t202).toInt64), .long ((t179 + ((t185).toInt64)) - ((t193).toInt64))]) d_Model_cover_212 kS_Model_232 ⟨Nat.le_of_ble_eq_true rfl, Nat.le_of_ble_eq_true rfl, Nat.le_of_ble_eq_true rfl, Nat.le_of_ble_eq_true rfl⟩ rfl rfl (Nat.le_of_ble_eq_true rfl) rfl (mt_Model_many e_t212) ?_
      refine aw_i2l d_Model_cover_215 ?_
      refine aw_lmul d_Model_cover_216 ?_
      refine aw_ladd d_Model_cover_217 ?_
      refine aw_lstore (ls' := [(5, .long _), (4, .int _), (0, .ref _), (1, .int _), (2, .int _), (3, .int _)]) d_Model_cover_218 (Nat.le_of_ble_eq_true rfl) rfl ?_
      refine aw_aload_n d_Model_cover_220 rfl rfl ?_
      obtain ⟨t221, e_t221, h⟩ := q_bind h
      refine aw_gtr d_Model_cover_221 fl_Model_137 (Or.inr ⟨_, rfl⟩) e_t221 ?_
      refine aw_iload_n d_Model_cover_224 rfl rfl ?_
      obtain ⟨t225, e_t225, h⟩ := q_bind h
      refine aw_ldl d_Model_cover_225 e_t225 ?_
      refine aw_lconst (v := 1) d_Model_cover_226 (by decide) ?_
      refine aw_iload_n d_Model_cover_227 rfl rfl ?_
      refine aw_lshl d_Model_cover_228 ?_
      refine aw_lor d_Model_cover_229 ?_
      refine aw_lstore (ls' := [(7, .long _), (5, .long _), (4, .int _), (0, .ref _), (1, .int _), (2, .int _), (3, .int _)]) d_Model_cover_230 (Nat.le_of_ble_eq_true rfl) rfl ?_
      refine aw_aload_n d_Model_cover_232 rfl rfl ?_
      obtain ⟨t233, e_t233, h⟩ := q_bind h
      refine aw_gtr d_Model_cover_233 fl_Model_134 (Or.inr ⟨_, rfl⟩) e_t233 ?_
      refine aw_iload d_Model_cover_236 rfl ?_
      obtain ⟨t238, e_t238, h⟩ := q_bind h
      refine aw_ldl d_Model_cover_238 e_t238 ?_
      refine aw_lconst (v := 0) d_Model_cover_239 (by decide) ?_
      refine aw_lcmp d_Model_cover_240 ?_
      refine aw_if_lt (tgt := 288) d_Model_cover_241 (by decide) (fun hc => ?_) (fun hc => ?_)
      · rw [if_pos hc] at h
        exact aw_pick [3, 4, 5, 6, 2, 1, 0] rfl (ih_7 _ _ _ _ _ _ _ _ _ _ _ _ h)
      · rw [if_neg hc] at h
        refine aw_aload_n d_Model_cover_244 rfl rfl ?_
        obtain ⟨t245, e_t245, h⟩ := q_bind h
        refine aw_gtr d_Model_cover_245 fl_Model_134 (Or.inr ⟨_, rfl⟩) e_t245 ?_
        refine aw_iload d_Model_cover_248 rfl ?_
        obtain ⟨t250, e_t250, h⟩ := q_bind h
        refine aw_ldl d_Model_cover_250 e_t250 ?_
        refine aw_lload d_Model_cover_251 rfl ?_
        refine aw_lcmp d_Model_cover_253 ?_
        refine aw_if_lt (tgt := 306) d_Model_cover_254 (by decide) (fun hc => ?_) (fun hc => ?_)
        · rw [if_pos hc] at h
          exact aw_pick [3, 4, 5, 6] rfl (ih_8 _ _ _ _ _ _ _ _ _ _ _ _ h)
        · rw [if_neg hc] at h
          refine aw_aload_n d_Model_cover_257 rfl rfl ?_
          obtain ⟨t258, e_t258, h⟩ := q_bind h
          refine aw_gtr d_Model_cover_258 fl_Model_134 (Or.inr ⟨_, rfl⟩) e_t258 ?_
          refine aw_iload d_Model_cover_261 rfl ?_
          obtain ⟨t263, e_t263, h⟩ := q_bind h
          refine aw_ldl d_Model_cover_263 e_t263 ?_
          refine aw_lload d_Model_cover_264 rfl ?_
          refine aw_lcmp d_Model_cover_266 ?_
          refine aw_if_ne (tgt := 288) d_Model_cover_267 (by decide) (fun hc => ?_) (fun hc => ?_)
          · rw [if_neg hc] at h
            exact aw_pick [3, 4, 5, 6, 2, 1, 0] rfl (ih_7 _ _ _ _ _ _ _ _ _ _ _ _ h)
          · rw [if_pos hc] at h
            refine aw_lload d_Model_cover_270 rfl ?_
            refine aw_aload_n d_Model_cover_272 rfl rfl ?_
            obtain ⟨t273, e_t273, h⟩ := q_bind h
            refine aw_gtr d_Model_cover_273 fl_Model_140 (Or.inr ⟨_, rfl⟩) e_t273 ?_
            refine aw_iload d_Model_cover_276 rfl ?_
            obtain ⟨t278, e_t278, h⟩ := q_bind h
            refine aw_ldl d_Model_cover_278 e_t278 ?_
            obtain ⟨t279, e_t279, h⟩ := q_bind h
            refine aw_cS (v := (some (.int t279))) (As := [.long (t225 ||| ((1 : Int64) <<< ((x2).toInt64 &&& 63))), .long t278]) (rest := []) (st' := [.int t279]) d_Model_cover_279 kS_Model_248 ⟨Nat.le_of_ble_eq_true rfl, Nat.le_of_ble_eq_true rfl, Nat.le_of_ble_eq_true rfl, Nat.le_of_ble_eq_true rfl⟩ rfl rfl (Nat.le_of_ble_eq_true rfl) rfl (mt_Model_isBetter e_t279) ?_
            refine aw_if_ne (tgt := 288) d_Model_cover_282 (by decide) (fun hc => ?_) (fun hc => ?_)
            · rw [if_neg hc] at h
              exact aw_pick [3, 4, 5, 6, 2, 1, 0] rfl (ih_7 _ _ _ _ _ _ _ _ _ _ _ _ h)
            · rw [if_pos hc] at h
              refine aw_goto (tgt := 306) d_Model_cover_285 (by decide) ?_
              exact aw_pick [3, 4, 5, 6] rfl (ih_8 _ _ _ _ _ _ _ _ _ _ _ _ h)
    · rw [if_neg hc] at h
      refine aw_goto (tgt := 306) d_Model_cover_161 (by decide) ?_
      exact aw_pick [0, 1, 2, 3] rfl (ih_8 _ _ _ _ _ _ _ _ _ _ _ _ h)
set_option maxHeartbeats 4000000 in
theorem s_Model_cover_7 {rc : Nat → Nat → Int32 → Int32 → Int32 → Int32 → Int64 → Int64 → Int32 → Int64 → Int32 → Nat → am_M → Option (Int32 × am_M)} {res : Int32} {M' : am_M} (ih_0 : ∀ (r0 : Nat) (x1 : Int32) (x2 : Int32) (x3 : Int32) (x4 : Int32) (l5 : Int64) (l7 : Int64) (s0 : Int32) (sl0 : Int64) (s1 : Int32) (sr2 : Nat) (M : am_M), rc 0 r0 x1 x2 x3 x4 l5 l7 s0 sl0 s1 sr2 M = some (res, M') → AW u_Model_cover R_Model_cover 0 0 22 [(0, .ref r0), (1, .int x1), (2, .int x2)] [] M (fun r M2 => r = .inl (some (.int res)) ∧ M2 = M')) (ih_1 : ∀ (r0 : Nat) (x1 : Int32) (x2 : Int32) (x3 : Int32) (x4 : Int32) (l5 : Int64) (l7 : Int64) (s0 : Int32) (sl0 : Int64) (s1 : Int32) (sr2 : Nat) (M : am_M), rc 1 r0 x1 x2 x3 x4 l5 l7 s0 sl0 s1 sr2 M = some (res, M') → AW u_Model_cover R_Model_cover 0 0 45 [(0, .ref r0), (2, .int x2)] [.int s0, .int s1] M (fun r M2 => r = .inl (some (.int res)) ∧ M2 = M')) (ih_2 : ∀ (r0 : Nat) (x1 : Int32) (x2 : Int32) (x3 : Int32) (x4 : Int32) (l5 : Int64) (l7 : Int64) (s0 : Int32) (sl0 : Int64) (s1 : Int32) (sr2 : Nat) (M : am_M), rc 2 r0 x1 x2 x3 x4 l5 l7 s0 sl0 s1 sr2 M = some (res, M') → AW u_Model_cover R_Model_cover 0 0 55 [(0, .ref r0), (1, .int x1), (2, .int x2)] [] M (fun r M2 => r = .inl (some (.int res)) ∧ M2 = M')) (ih_3 : ∀ (r0 : Nat) (x1 : Int32) (x2 : Int32) (x3 : Int32) (x4 : Int32) (l5 : Int64) (l7 : Int64) (s0 : Int32) (sl0 : Int64) (s1 : Int32) (sr2 : Nat) (M : am_M), rc 3 r0 x1 x2 x3 x4 l5 l7 s0 sl0 s1 sr2 M = some (res, M') → AW u_Model_cover R_Model_cover 0 0 78 [(0, .ref r0), (1, .int x1), (2, .int x2)] [.long sl0, .int s1, .ref sr2] M (fun r M2 => r = .inl (some (.int res)) ∧ M2 = M')) (ih_4 : ∀ (r0 : Nat) (x1 : Int32) (x2 : Int32) (x3 : Int32) (x4 : Int32) (l5 : Int64) (l7 : Int64) (s0 : Int32) (sl0 : Int64) (s1 : Int32) (sr2 : Nat) (M : am_M), rc 4 r0 x1 x2 x3 x4 l5 l7 s0 sl0 s1 sr2 M = some (res, M') → AW u_Model_cover R_Model_cover 0 0 94 [(0, .ref r0), (1, .int x1), (2, .int x2)] [] M (fun r M2 => r = .inl (some (.int res)) ∧ M2 = M')) (ih_5 : ∀ (r0 : Nat) (x1 : Int32) (x2 : Int32) (x3 : Int32) (x4 : Int32) (l5 : Int64) (l7 : Int64) (s0 : Int32) (sl0 : Int64) (s1 : Int32) (sr2 : Nat) (M : am_M), rc 5 r0 x1 x2 x3 x4 l5 l7 s0 sl0 s1 sr2 M = some (res, M') → AW u_Model_cover R_Model_cover 0 0 104 [(0, .ref r0), (1, .int x1), (2, .int x2), (3, .int x3)] [] M (fun r M2 => r = .inl (some (.int res)) ∧ M2 = M')) (ih_6 : ∀ (r0 : Nat) (x1 : Int32) (x2 : Int32) (x3 : Int32) (x4 : Int32) (l5 : Int64) (l7 : Int64) (s0 : Int32) (sl0 : Int64) (s1 : Int32) (sr2 : Nat) (M : am_M), rc 6 r0 x1 x2 x3 x4 l5 l7 s0 sl0 s1 sr2 M = some (res, M') → AW u_Model_cover R_Model_cover 0 0 143 [(0, .ref r0), (1, .int x1), (2, .int x2), (3, .int x3)] [] M (fun r M2 => r = .inl (some (.int res)) ∧ M2 = M')) (ih_7 : ∀ (r0 : Nat) (x1 : Int32) (x2 : Int32) (x3 : Int32) (x4 : Int32) (l5 : Int64) (l7 : Int64) (s0 : Int32) (sl0 : Int64) (s1 : Int32) (sr2 : Nat) (M : am_M), rc 7 r0 x1 x2 x3 x4 l5 l7 s0 sl0 s1 sr2 M = some (res, M') → AW u_Model_cover R_Model_cover 0 0 288 [(0, .ref r0), (1, .int x1), (2, .int x2), (3, .int x3), (4, .int x4), (5, .long l5), (7, .long l7)] [] M (fun r M2 => r = .inl (some (.int res)) ∧ M2 = M')) (ih_8 : ∀ (r0 : Nat) (x1 : Int32) (x2 : Int32) (x3 : Int32) (x4 : Int32) (l5 : Int64) (l7 : Int64) (s0 : Int32) (sl0 : Int64) (s1 : Int32) (sr2 : Nat) (M : am_M), rc 8 r0 x1 x2 x3 x4 l5 l7 s0 sl0 s1 sr2 M = some (res, M') → AW u_Model_cover R_Model_cover 0 0 306 [(0, .ref r0), (1, .int x1), (2, .int x2), (3, .int x3)] [] M (fun r M2 => r = .inl (some (.int res)) ∧ M2 = M')) (ih_9 : ∀ (r0 : Nat) (x1 : Int32) (x2 : Int32) (x3 : Int32) (x4 : Int32) (l5 : Int64) (l7 : Int64) (s0 : Int32) (sl0 : Int64) (s1 : Int32) (sr2 : Nat) (M : am_M), rc 9 r0 x1 x2 x3 x4 l5 l7 s0 sl0 s1 sr2 M = some (res, M') → AW u_Model_cover R_Model_cover 0 0 314 [(0, .ref r0), (1, .int x1), (2, .int x2), (3, .int x3)] [] M (fun r M2 => r = .inl (some (.int res)) ∧ M2 = M')) (ih_10 : ∀ (r0 : Nat) (x1 : Int32) (x2 : Int32) (x3 : Int32) (x4 : Int32) (l5 : Int64) (l7 : Int64) (s0 : Int32) (sl0 : Int64) (s1 : Int32) (sr2 : Nat) (M : am_M), rc 10 r0 x1 x2 x3 x4 l5 l7 s0 sl0 s1 sr2 M = some (res, M') → AW u_Model_cover R_Model_cover 0 0 377 [(0, .ref r0), (1, .int x1), (2, .int x2)] [] M (fun r M2 => r = .inl (some (.int res)) ∧ M2 = M')) (ih_11 : ∀ (r0 : Nat) (x1 : Int32) (x2 : Int32) (x3 : Int32) (x4 : Int32) (l5 : Int64) (l7 : Int64) (s0 : Int32) (sl0 : Int64) (s1 : Int32) (sr2 : Nat) (M : am_M), rc 11 r0 x1 x2 x3 x4 l5 l7 s0 sl0 s1 sr2 M = some (res, M') → AW u_Model_cover R_Model_cover 0 0 410 [(0, .ref r0), (1, .int x1), (2, .int x2)] [.int s0, .int s1, .ref sr2] M (fun r M2 => r = .inl (some (.int res)) ∧ M2 = M')) : ∀ (r0 : Nat) (x1 : Int32) (x2 : Int32) (x3 : Int32) (x4 : Int32) (l5 : Int64) (l7 : Int64) (s0 : Int32) (sl0 : Int64) (s1 : Int32) (sr2 : Nat) (M : am_M), a_Model_cover_7 rc r0 x1 x2 x3 x4 l5 l7 s0 sl0 s1 sr2 M = some (res, M') → AW u_Model_cover R_Model_cover 0 0 288 [(0, .ref r0), (1, .int x1), (2, .int x2), (3, .int x3), (4, .int x4), (5, .long l5), (7, .long l7)] [] M (fun r M2 => r = .inl (some (.int res)) ∧ M2 = M') := by
  intro r0 x1 x2 x3 x4 l5 l7 s0 sl0 s1 sr2 M h
  unfold a_Model_cover_7 at h
  refine aw_aload_n d_Model_cover_288 rfl rfl ?_
  obtain ⟨t289, e_t289, h⟩ := q_bind h
  refine aw_gtr d_Model_cover_289 fl_Model_134 (Or.inr ⟨_, rfl⟩) e_t289 ?_
  refine aw_iload d_Model_cover_292 rfl ?_
  refine aw_lload d_Model_cover_294 rfl ?_
  obtain ⟨M296, e_M296, h⟩ := q_bind h
  refine aw_stl d_Model_cover_296 e_M296 ?_
  refine aw_aload_n d_Model_cover_297 rfl rfl ?_
  obtain ⟨t298, e_t298, h⟩ := q_bind h
  refine aw_gtr d_Model_cover_298 fl_Model_140 (Or.inr ⟨_, rfl⟩) e_t298 ?_
  refine aw_iload d_Model_cover_301 rfl ?_
  refine aw_lload d_Model_cover_303 rfl ?_
  obtain ⟨M305, e_M305, h⟩ := q_bind h
  refine aw_stl d_Model_cover_305 e_M305 ?_
  exact aw_pick [0, 1, 2, 3] rfl (ih_8 _ _ _ _ _ _ _ _ _ _ _ _ h)
set_option maxHeartbeats 4000000 in
theorem s_Model_cover_8 {rc : Nat → Nat → Int32 → Int32 → Int32 → Int32 → Int64 → Int64 → Int32 → Int64 → Int32 → Nat → am_M → Option (Int32 × am_M)} {res : Int32} {M' : am_M} (ih_0 : ∀ (r0 : Nat) (x1 : Int32) (x2 : Int32) (x3 : Int32) (x4 : Int32) (l5 : Int64) (l7 : Int64) (s0 : Int32) (sl0 : Int64) (s1 : Int32) (sr2 : Nat) (M : am_M), rc 0 r0 x1 x2 x3 x4 l5 l7 s0 sl0 s1 sr2 M = some (res, M') → AW u_Model_cover R_Model_cover 0 0 22 [(0, .ref r0), (1, .int x1), (2, .int x2)] [] M (fun r M2 => r = .inl (some (.int res)) ∧ M2 = M')) (ih_1 : ∀ (r0 : Nat) (x1 : Int32) (x2 : Int32) (x3 : Int32) (x4 : Int32) (l5 : Int64) (l7 : Int64) (s0 : Int32) (sl0 : Int64) (s1 : Int32) (sr2 : Nat) (M : am_M), rc 1 r0 x1 x2 x3 x4 l5 l7 s0 sl0 s1 sr2 M = some (res, M') → AW u_Model_cover R_Model_cover 0 0 45 [(0, .ref r0), (2, .int x2)] [.int s0, .int s1] M (fun r M2 => r = .inl (some (.int res)) ∧ M2 = M')) (ih_2 : ∀ (r0 : Nat) (x1 : Int32) (x2 : Int32) (x3 : Int32) (x4 : Int32) (l5 : Int64) (l7 : Int64) (s0 : Int32) (sl0 : Int64) (s1 : Int32) (sr2 : Nat) (M : am_M), rc 2 r0 x1 x2 x3 x4 l5 l7 s0 sl0 s1 sr2 M = some (res, M') → AW u_Model_cover R_Model_cover 0 0 55 [(0, .ref r0), (1, .int x1), (2, .int x2)] [] M (fun r M2 => r = .inl (some (.int res)) ∧ M2 = M')) (ih_3 : ∀ (r0 : Nat) (x1 : Int32) (x2 : Int32) (x3 : Int32) (x4 : Int32) (l5 : Int64) (l7 : Int64) (s0 : Int32) (sl0 : Int64) (s1 : Int32) (sr2 : Nat) (M : am_M), rc 3 r0 x1 x2 x3 x4 l5 l7 s0 sl0 s1 sr2 M = some (res, M') → AW u_Model_cover R_Model_cover 0 0 78 [(0, .ref r0), (1, .int x1), (2, .int x2)] [.long sl0, .int s1, .ref sr2] M (fun r M2 => r = .inl (some (.int res)) ∧ M2 = M')) (ih_4 : ∀ (r0 : Nat) (x1 : Int32) (x2 : Int32) (x3 : Int32) (x4 : Int32) (l5 : Int64) (l7 : Int64) (s0 : Int32) (sl0 : Int64) (s1 : Int32) (sr2 : Nat) (M : am_M), rc 4 r0 x1 x2 x3 x4 l5 l7 s0 sl0 s1 sr2 M = some (res, M') → AW u_Model_cover R_Model_cover 0 0 94 [(0, .ref r0), (1, .int x1), (2, .int x2)] [] M (fun r M2 => r = .inl (some (.int res)) ∧ M2 = M')) (ih_5 : ∀ (r0 : Nat) (x1 : Int32) (x2 : Int32) (x3 : Int32) (x4 : Int32) (l5 : Int64) (l7 : Int64) (s0 : Int32) (sl0 : Int64) (s1 : Int32) (sr2 : Nat) (M : am_M), rc 5 r0 x1 x2 x3 x4 l5 l7 s0 sl0 s1 sr2 M = some (res, M') → AW u_Model_cover R_Model_cover 0 0 104 [(0, .ref r0), (1, .int x1), (2, .int x2), (3, .int x3)] [] M (fun r M2 => r = .inl (some (.int res)) ∧ M2 = M')) (ih_6 : ∀ (r0 : Nat) (x1 : Int32) (x2 : Int32) (x3 : Int32) (x4 : Int32) (l5 : Int64) (l7 : Int64) (s0 : Int32) (sl0 : Int64) (s1 : Int32) (sr2 : Nat) (M : am_M), rc 6 r0 x1 x2 x3 x4 l5 l7 s0 sl0 s1 sr2 M = some (res, M') → AW u_Model_cover R_Model_cover 0 0 143 [(0, .ref r0), (1, .int x1), (2, .int x2), (3, .int x3)] [] M (fun r M2 => r = .inl (some (.int res)) ∧ M2 = M')) (ih_7 : ∀ (r0 : Nat) (x1 : Int32) (x2 : Int32) (x3 : Int32) (x4 : Int32) (l5 : Int64) (l7 : Int64) (s0 : Int32) (sl0 : Int64) (s1 : Int32) (sr2 : Nat) (M : am_M), rc 7 r0 x1 x2 x3 x4 l5 l7 s0 sl0 s1 sr2 M = some (res, M') → AW u_Model_cover R_Model_cover 0 0 288 [(0, .ref r0), (1, .int x1), (2, .int x2), (3, .int x3), (4, .int x4), (5, .long l5), (7, .long l7)] [] M (fun r M2 => r = .inl (some (.int res)) ∧ M2 = M')) (ih_8 : ∀ (r0 : Nat) (x1 : Int32) (x2 : Int32) (x3 : Int32) (x4 : Int32) (l5 : Int64) (l7 : Int64) (s0 : Int32) (sl0 : Int64) (s1 : Int32) (sr2 : Nat) (M : am_M), rc 8 r0 x1 x2 x3 x4 l5 l7 s0 sl0 s1 sr2 M = some (res, M') → AW u_Model_cover R_Model_cover 0 0 306 [(0, .ref r0), (1, .int x1), (2, .int x2), (3, .int x3)] [] M (fun r M2 => r = .inl (some (.int res)) ∧ M2 = M')) (ih_9 : ∀ (r0 : Nat) (x1 : Int32) (x2 : Int32) (x3 : Int32) (x4 : Int32) (l5 : Int64) (l7 : Int64) (s0 : Int32) (sl0 : Int64) (s1 : Int32) (sr2 : Nat) (M : am_M), rc 9 r0 x1 x2 x3 x4 l5 l7 s0 sl0 s1 sr2 M = some (res, M') → AW u_Model_cover R_Model_cover 0 0 314 [(0, .ref r0), (1, .int x1), (2, .int x2), (3, .int x3)] [] M (fun r M2 => r = .inl (some (.int res)) ∧ M2 = M')) (ih_10 : ∀ (r0 : Nat) (x1 : Int32) (x2 : Int32) (x3 : Int32) (x4 : Int32) (l5 : Int64) (l7 : Int64) (s0 : Int32) (sl0 : Int64) (s1 : Int32) (sr2 : Nat) (M : am_M), rc 10 r0 x1 x2 x3 x4 l5 l7 s0 sl0 s1 sr2 M = some (res, M') → AW u_Model_cover R_Model_cover 0 0 377 [(0, .ref r0), (1, .int x1), (2, .int x2)] [] M (fun r M2 => r = .inl (some (.int res)) ∧ M2 = M')) (ih_11 : ∀ (r0 : Nat) (x1 : Int32) (x2 : Int32) (x3 : Int32) (x4 : Int32) (l5 : Int64) (l7 : Int64) (s0 : Int32) (sl0 : Int64) (s1 : Int32) (sr2 : Nat) (M : am_M), rc 11 r0 x1 x2 x3 x4 l5 l7 s0 sl0 s1 sr2 M = some (res, M') → AW u_Model_cover R_Model_cover 0 0 410 [(0, .ref r0), (1, .int x1), (2, .int x2)] [.int s0, .int s1, .ref sr2] M (fun r M2 => r = .inl (some (.int res)) ∧ M2 = M')) : ∀ (r0 : Nat) (x1 : Int32) (x2 : Int32) (x3 : Int32) (x4 : Int32) (l5 : Int64) (l7 : Int64) (s0 : Int32) (sl0 : Int64) (s1 : Int32) (sr2 : Nat) (M : am_M), a_Model_cover_8 rc r0 x1 x2 x3 x4 l5 l7 s0 sl0 s1 sr2 M = some (res, M') → AW u_Model_cover R_Model_cover 0 0 306 [(0, .ref r0), (1, .int x1), (2, .int x2), (3, .int x3)] [] M (fun r M2 => r = .inl (some (.int res)) ∧ M2 = M') := by
  intro r0 x1 x2 x3 x4 l5 l7 s0 sl0 s1 sr2 M h
  unfold a_Model_cover_8 at h
  refine aw_iinc (v := (x3 + (1 : Int32))) (ls' := [(3, .int _), (0, .ref _), (1, .int _), (2, .int _)]) d_Model_cover_306 rfl rfl (Nat.le_of_ble_eq_true rfl) rfl ?_
  refine aw_goto (tgt := 143) d_Model_cover_309 (by decide) ?_
  exact aw_pick [1, 2, 3, 0] rfl (ih_6 _ _ _ _ _ _ _ _ _ _ _ _ h)
set_option maxHeartbeats 4000000 in
theorem s_Model_cover_9 {rc : Nat → Nat → Int32 → Int32 → Int32 → Int32 → Int64 → Int64 → Int32 → Int64 → Int32 → Nat → am_M → Option (Int32 × am_M)} {res : Int32} {M' : am_M} (ih_0 : ∀ (r0 : Nat) (x1 : Int32) (x2 : Int32) (x3 : Int32) (x4 : Int32) (l5 : Int64) (l7 : Int64) (s0 : Int32) (sl0 : Int64) (s1 : Int32) (sr2 : Nat) (M : am_M), rc 0 r0 x1 x2 x3 x4 l5 l7 s0 sl0 s1 sr2 M = some (res, M') → AW u_Model_cover R_Model_cover 0 0 22 [(0, .ref r0), (1, .int x1), (2, .int x2)] [] M (fun r M2 => r = .inl (some (.int res)) ∧ M2 = M')) (ih_1 : ∀ (r0 : Nat) (x1 : Int32) (x2 : Int32) (x3 : Int32) (x4 : Int32) (l5 : Int64) (l7 : Int64) (s0 : Int32) (sl0 : Int64) (s1 : Int32) (sr2 : Nat) (M : am_M), rc 1 r0 x1 x2 x3 x4 l5 l7 s0 sl0 s1 sr2 M = some (res, M') → AW u_Model_cover R_Model_cover 0 0 45 [(0, .ref r0), (2, .int x2)] [.int s0, .int s1] M (fun r M2 => r = .inl (some (.int res)) ∧ M2 = M')) (ih_2 : ∀ (r0 : Nat) (x1 : Int32) (x2 : Int32) (x3 : Int32) (x4 : Int32) (l5 : Int64) (l7 : Int64) (s0 : Int32) (sl0 : Int64) (s1 : Int32) (sr2 : Nat) (M : am_M), rc 2 r0 x1 x2 x3 x4 l5 l7 s0 sl0 s1 sr2 M = some (res, M') → AW u_Model_cover R_Model_cover 0 0 55 [(0, .ref r0), (1, .int x1), (2, .int x2)] [] M (fun r M2 => r = .inl (some (.int res)) ∧ M2 = M')) (ih_3 : ∀ (r0 : Nat) (x1 : Int32) (x2 : Int32) (x3 : Int32) (x4 : Int32) (l5 : Int64) (l7 : Int64) (s0 : Int32) (sl0 : Int64) (s1 : Int32) (sr2 : Nat) (M : am_M), rc 3 r0 x1 x2 x3 x4 l5 l7 s0 sl0 s1 sr2 M = some (res, M') → AW u_Model_cover R_Model_cover 0 0 78 [(0, .ref r0), (1, .int x1), (2, .int x2)] [.long sl0, .int s1, .ref sr2] M (fun r M2 => r = .inl (some (.int res)) ∧ M2 = M')) (ih_4 : ∀ (r0 : Nat) (x1 : Int32) (x2 : Int32) (x3 : Int32) (x4 : Int32) (l5 : Int64) (l7 : Int64) (s0 : Int32) (sl0 : Int64) (s1 : Int32) (sr2 : Nat) (M : am_M), rc 4 r0 x1 x2 x3 x4 l5 l7 s0 sl0 s1 sr2 M = some (res, M') → AW u_Model_cover R_Model_cover 0 0 94 [(0, .ref r0), (1, .int x1), (2, .int x2)] [] M (fun r M2 => r = .inl (some (.int res)) ∧ M2 = M')) (ih_5 : ∀ (r0 : Nat) (x1 : Int32) (x2 : Int32) (x3 : Int32) (x4 : Int32) (l5 : Int64) (l7 : Int64) (s0 : Int32) (sl0 : Int64) (s1 : Int32) (sr2 : Nat) (M : am_M), rc 5 r0 x1 x2 x3 x4 l5 l7 s0 sl0 s1 sr2 M = some (res, M') → AW u_Model_cover R_Model_cover 0 0 104 [(0, .ref r0), (1, .int x1), (2, .int x2), (3, .int x3)] [] M (fun r M2 => r = .inl (some (.int res)) ∧ M2 = M')) (ih_6 : ∀ (r0 : Nat) (x1 : Int32) (x2 : Int32) (x3 : Int32) (x4 : Int32) (l5 : Int64) (l7 : Int64) (s0 : Int32) (sl0 : Int64) (s1 : Int32) (sr2 : Nat) (M : am_M), rc 6 r0 x1 x2 x3 x4 l5 l7 s0 sl0 s1 sr2 M = some (res, M') → AW u_Model_cover R_Model_cover 0 0 143 [(0, .ref r0), (1, .int x1), (2, .int x2), (3, .int x3)] [] M (fun r M2 => r = .inl (some (.int res)) ∧ M2 = M')) (ih_7 : ∀ (r0 : Nat) (x1 : Int32) (x2 : Int32) (x3 : Int32) (x4 : Int32) (l5 : Int64) (l7 : Int64) (s0 : Int32) (sl0 : Int64) (s1 : Int32) (sr2 : Nat) (M : am_M), rc 7 r0 x1 x2 x3 x4 l5 l7 s0 sl0 s1 sr2 M = some (res, M') → AW u_Model_cover R_Model_cover 0 0 288 [(0, .ref r0), (1, .int x1), (2, .int x2), (3, .int x3), (4, .int x4), (5, .long l5), (7, .long l7)] [] M (fun r M2 => r = .inl (some (.int res)) ∧ M2 = M')) (ih_8 : ∀ (r0 : Nat) (x1 : Int32) (x2 : Int32) (x3 : Int32) (x4 : Int32) (l5 : Int64) (l7 : Int64) (s0 : Int32) (sl0 : Int64) (s1 : Int32) (sr2 : Nat) (M : am_M), rc 8 r0 x1 x2 x3 x4 l5 l7 s0 sl0 s1 sr2 M = some (res, M') → AW u_Model_cover R_Model_cover 0 0 306 [(0, .ref r0), (1, .int x1), (2, .int x2), (3, .int x3)] [] M (fun r M2 => r = .inl (some (.int res)) ∧ M2 = M')) (ih_9 : ∀ (r0 : Nat) (x1 : Int32) (x2 : Int32) (x3 : Int32) (x4 : Int32) (l5 : Int64) (l7 : Int64) (s0 : Int32) (sl0 : Int64) (s1 : Int32) (sr2 : Nat) (M : am_M), rc 9 r0 x1 x2 x3 x4 l5 l7 s0 sl0 s1 sr2 M = some (res, M') → AW u_Model_cover R_Model_cover 0 0 314 [(0, .ref r0), (1, .int x1), (2, .int x2), (3, .int x3)] [] M (fun r M2 => r = .inl (some (.int res)) ∧ M2 = M')) (ih_10 : ∀ (r0 : Nat) (x1 : Int32) (x2 : Int32) (x3 : Int32) (x4 : Int32) (l5 : Int64) (l7 : Int64) (s0 : Int32) (sl0 : Int64) (s1 : Int32) (sr2 : Nat) (M : am_M), rc 10 r0 x1 x2 x3 x4 l5 l7 s0 sl0 s1 sr2 M = some (res, M') → AW u_Model_cover R_Model_cover 0 0 377 [(0, .ref r0), (1, .int x1), (2, .int x2)] [] M (fun r M2 => r = .inl (some (.int res)) ∧ M2 = M')) (ih_11 : ∀ (r0 : Nat) (x1 : Int32) (x2 : Int32) (x3 : Int32) (x4 : Int32) (l5 : Int64) (l7 : Int64) (s0 : Int32) (sl0 : Int64) (s1 : Int32) (sr2 : Nat) (M : am_M), rc 11 r0 x1 x2 x3 x4 l5 l7 s0 sl0 s1 sr2 M = some (res, M') → AW u_Model_cover R_Model_cover 0 0 410 [(0, .ref r0), (1, .int x1), (2, .int x2)] [.int s0, .int s1, .ref sr2] M (fun r M2 => r = .inl (some (.int res)) ∧ M2 = M')) : ∀ (r0 : Nat) (x1 : Int32) (x2 : Int32) (x3 : Int32) (x4 : Int32) (l5 : Int64) (l7 : Int64) (s0 : Int32) (sl0 : Int64) (s1 : Int32) (sr2 : Nat) (M : am_M), a_Model_cover_9 rc r0 x1 x2 x3 x4 l5 l7 s0 sl0 s1 sr2 M = some (res, M') → AW u_Model_cover R_Model_cover 0 0 314 [(0, .ref r0), (1, .int x1), (2, .int x2), (3, .int x3)] [] M (fun r M2 => r = .inl (some (.int res)) ∧ M2 = M') := by
  intro r0 x1 x2 x3 x4 l5 l7 s0 sl0 s1 sr2 M h
  unfold a_Model_cover_9 at h
  refine aw_iload_n d_Model_cover_314 rfl rfl ?_
  refine aw_sipush (v := 4096) d_Model_cover_315 (by decide) ?_
  refine aw_icmp_ge (tgt := 351) d_Model_cover_318 (by decide) (fun hc => ?_) (fun hc => ?_)
  · rw [if_pos hc] at h
    refine aw_iinc (v := (x2 + (1 : Int32))) (ls' := [(2, .int _), (0, .ref _), (1, .int _), (3, .int _)]) d_Model_cover_351 rfl rfl (Nat.le_of_ble_eq_true rfl) rfl ?_
    refine aw_goto (tgt := 94) d_Model_cover_354 (by decide) ?_
    exact aw_pick [1, 2, 0] rfl (ih_4 _ _ _ _ _ _ _ _ _ _ _ _ h)
  · rw [if_neg hc] at h
    refine aw_aload_n d_Model_cover_321 rfl rfl ?_
    obtain ⟨t322, e_t322, h⟩ := q_bind h
    refine aw_gtr d_Model_cover_322 fl_Model_130 (Or.inr ⟨_, rfl⟩) e_t322 ?_
    refine aw_iload_n d_Model_cover_325 rfl rfl ?_
    refine aw_aload_n d_Model_cover_326 rfl rfl ?_
    obtain ⟨t327, e_t327, h⟩ := q_bind h
    refine aw_gtr d_Model_cover_327 fl_Model_134 (Or.inr ⟨_, rfl⟩) e_t327 ?_
    refine aw_iload_n d_Model_cover_330 rfl rfl ?_
    obtain ⟨t331, e_t331, h⟩ := q_bind h
    refine aw_ldl d_Model_cover_331 e_t331 ?_
    obtain ⟨M332, e_M332, h⟩ := q_bind h
    refine aw_stl d_Model_cover_332 e_M332 ?_
    refine aw_aload_n d_Model_cover_333 rfl rfl ?_
    obtain ⟨t334, e_t334, h⟩ := q_bind h
    refine aw_gtr d_Model_cover_334 fl_Model_137 (Or.inr ⟨_, rfl⟩) e_t334 ?_
    refine aw_iload_n d_Model_cover_337 rfl rfl ?_
    refine aw_aload_n d_Model_cover_338 rfl rfl ?_
    obtain ⟨t339, e_t339, h⟩ := q_bind h
    refine aw_gtr d_Model_cover_339 fl_Model_140 (Or.inr ⟨_, rfl⟩) e_t339 ?_
    refine aw_iload_n d_Model_cover_342 rfl rfl ?_
    obtain ⟨t343, e_t343, h⟩ := q_bind h
    refine aw_ldl d_Model_cover_343 e_t343 ?_
    obtain ⟨M344, e_M344, h⟩ := q_bind h
    refine aw_stl d_Model_cover_344 e_M344 ?_
    refine aw_iinc (v := (x3 + (1 : Int32))) (ls' := [(3, .int _), (0, .ref _), (1, .int _), (2, .int _)]) d_Model_cover_345 rfl rfl (Nat.le_of_ble_eq_true rfl) rfl ?_
    refine aw_goto (tgt := 314) d_Model_cover_348 (by decide) ?_
    exact aw_pick [1, 2, 3, 0] rfl (ih_9 _ _ _ _ _ _ _ _ _ _ _ _ h)
set_option maxHeartbeats 4000000 in
theorem s_Model_cover_10 {rc : Nat → Nat → Int32 → Int32 → Int32 → Int32 → Int64 → Int64 → Int32 → Int64 → Int32 → Nat → am_M → Option (Int32 × am_M)} {res : Int32} {M' : am_M} (ih_0 : ∀ (r0 : Nat) (x1 : Int32) (x2 : Int32) (x3 : Int32) (x4 : Int32) (l5 : Int64) (l7 : Int64) (s0 : Int32) (sl0 : Int64) (s1 : Int32) (sr2 : Nat) (M : am_M), rc 0 r0 x1 x2 x3 x4 l5 l7 s0 sl0 s1 sr2 M = some (res, M') → AW u_Model_cover R_Model_cover 0 0 22 [(0, .ref r0), (1, .int x1), (2, .int x2)] [] M (fun r M2 => r = .inl (some (.int res)) ∧ M2 = M')) (ih_1 : ∀ (r0 : Nat) (x1 : Int32) (x2 : Int32) (x3 : Int32) (x4 : Int32) (l5 : Int64) (l7 : Int64) (s0 : Int32) (sl0 : Int64) (s1 : Int32) (sr2 : Nat) (M : am_M), rc 1 r0 x1 x2 x3 x4 l5 l7 s0 sl0 s1 sr2 M = some (res, M') → AW u_Model_cover R_Model_cover 0 0 45 [(0, .ref r0), (2, .int x2)] [.int s0, .int s1] M (fun r M2 => r = .inl (some (.int res)) ∧ M2 = M')) (ih_2 : ∀ (r0 : Nat) (x1 : Int32) (x2 : Int32) (x3 : Int32) (x4 : Int32) (l5 : Int64) (l7 : Int64) (s0 : Int32) (sl0 : Int64) (s1 : Int32) (sr2 : Nat) (M : am_M), rc 2 r0 x1 x2 x3 x4 l5 l7 s0 sl0 s1 sr2 M = some (res, M') → AW u_Model_cover R_Model_cover 0 0 55 [(0, .ref r0), (1, .int x1), (2, .int x2)] [] M (fun r M2 => r = .inl (some (.int res)) ∧ M2 = M')) (ih_3 : ∀ (r0 : Nat) (x1 : Int32) (x2 : Int32) (x3 : Int32) (x4 : Int32) (l5 : Int64) (l7 : Int64) (s0 : Int32) (sl0 : Int64) (s1 : Int32) (sr2 : Nat) (M : am_M), rc 3 r0 x1 x2 x3 x4 l5 l7 s0 sl0 s1 sr2 M = some (res, M') → AW u_Model_cover R_Model_cover 0 0 78 [(0, .ref r0), (1, .int x1), (2, .int x2)] [.long sl0, .int s1, .ref sr2] M (fun r M2 => r = .inl (some (.int res)) ∧ M2 = M')) (ih_4 : ∀ (r0 : Nat) (x1 : Int32) (x2 : Int32) (x3 : Int32) (x4 : Int32) (l5 : Int64) (l7 : Int64) (s0 : Int32) (sl0 : Int64) (s1 : Int32) (sr2 : Nat) (M : am_M), rc 4 r0 x1 x2 x3 x4 l5 l7 s0 sl0 s1 sr2 M = some (res, M') → AW u_Model_cover R_Model_cover 0 0 94 [(0, .ref r0), (1, .int x1), (2, .int x2)] [] M (fun r M2 => r = .inl (some (.int res)) ∧ M2 = M')) (ih_5 : ∀ (r0 : Nat) (x1 : Int32) (x2 : Int32) (x3 : Int32) (x4 : Int32) (l5 : Int64) (l7 : Int64) (s0 : Int32) (sl0 : Int64) (s1 : Int32) (sr2 : Nat) (M : am_M), rc 5 r0 x1 x2 x3 x4 l5 l7 s0 sl0 s1 sr2 M = some (res, M') → AW u_Model_cover R_Model_cover 0 0 104 [(0, .ref r0), (1, .int x1), (2, .int x2), (3, .int x3)] [] M (fun r M2 => r = .inl (some (.int res)) ∧ M2 = M')) (ih_6 : ∀ (r0 : Nat) (x1 : Int32) (x2 : Int32) (x3 : Int32) (x4 : Int32) (l5 : Int64) (l7 : Int64) (s0 : Int32) (sl0 : Int64) (s1 : Int32) (sr2 : Nat) (M : am_M), rc 6 r0 x1 x2 x3 x4 l5 l7 s0 sl0 s1 sr2 M = some (res, M') → AW u_Model_cover R_Model_cover 0 0 143 [(0, .ref r0), (1, .int x1), (2, .int x2), (3, .int x3)] [] M (fun r M2 => r = .inl (some (.int res)) ∧ M2 = M')) (ih_7 : ∀ (r0 : Nat) (x1 : Int32) (x2 : Int32) (x3 : Int32) (x4 : Int32) (l5 : Int64) (l7 : Int64) (s0 : Int32) (sl0 : Int64) (s1 : Int32) (sr2 : Nat) (M : am_M), rc 7 r0 x1 x2 x3 x4 l5 l7 s0 sl0 s1 sr2 M = some (res, M') → AW u_Model_cover R_Model_cover 0 0 288 [(0, .ref r0), (1, .int x1), (2, .int x2), (3, .int x3), (4, .int x4), (5, .long l5), (7, .long l7)] [] M (fun r M2 => r = .inl (some (.int res)) ∧ M2 = M')) (ih_8 : ∀ (r0 : Nat) (x1 : Int32) (x2 : Int32) (x3 : Int32) (x4 : Int32) (l5 : Int64) (l7 : Int64) (s0 : Int32) (sl0 : Int64) (s1 : Int32) (sr2 : Nat) (M : am_M), rc 8 r0 x1 x2 x3 x4 l5 l7 s0 sl0 s1 sr2 M = some (res, M') → AW u_Model_cover R_Model_cover 0 0 306 [(0, .ref r0), (1, .int x1), (2, .int x2), (3, .int x3)] [] M (fun r M2 => r = .inl (some (.int res)) ∧ M2 = M')) (ih_9 : ∀ (r0 : Nat) (x1 : Int32) (x2 : Int32) (x3 : Int32) (x4 : Int32) (l5 : Int64) (l7 : Int64) (s0 : Int32) (sl0 : Int64) (s1 : Int32) (sr2 : Nat) (M : am_M), rc 9 r0 x1 x2 x3 x4 l5 l7 s0 sl0 s1 sr2 M = some (res, M') → AW u_Model_cover R_Model_cover 0 0 314 [(0, .ref r0), (1, .int x1), (2, .int x2), (3, .int x3)] [] M (fun r M2 => r = .inl (some (.int res)) ∧ M2 = M')) (ih_10 : ∀ (r0 : Nat) (x1 : Int32) (x2 : Int32) (x3 : Int32) (x4 : Int32) (l5 : Int64) (l7 : Int64) (s0 : Int32) (sl0 : Int64) (s1 : Int32) (sr2 : Nat) (M : am_M), rc 10 r0 x1 x2 x3 x4 l5 l7 s0 sl0 s1 sr2 M = some (res, M') → AW u_Model_cover R_Model_cover 0 0 377 [(0, .ref r0), (1, .int x1), (2, .int x2)] [] M (fun r M2 => r = .inl (some (.int res)) ∧ M2 = M')) (ih_11 : ∀ (r0 : Nat) (x1 : Int32) (x2 : Int32) (x3 : Int32) (x4 : Int32) (l5 : Int64) (l7 : Int64) (s0 : Int32) (sl0 : Int64) (s1 : Int32) (sr2 : Nat) (M : am_M), rc 11 r0 x1 x2 x3 x4 l5 l7 s0 sl0 s1 sr2 M = some (res, M') → AW u_Model_cover R_Model_cover 0 0 410 [(0, .ref r0), (1, .int x1), (2, .int x2)] [.int s0, .int s1, .ref sr2] M (fun r M2 => r = .inl (some (.int res)) ∧ M2 = M')) : ∀ (r0 : Nat) (x1 : Int32) (x2 : Int32) (x3 : Int32) (x4 : Int32) (l5 : Int64) (l7 : Int64) (s0 : Int32) (sl0 : Int64) (s1 : Int32) (sr2 : Nat) (M : am_M), a_Model_cover_10 rc r0 x1 x2 x3 x4 l5 l7 s0 sl0 s1 sr2 M = some (res, M') → AW u_Model_cover R_Model_cover 0 0 377 [(0, .ref r0), (1, .int x1), (2, .int x2)] [] M (fun r M2 => r = .inl (some (.int res)) ∧ M2 = M') := by
  intro r0 x1 x2 x3 x4 l5 l7 s0 sl0 s1 sr2 M h
  unfold a_Model_cover_10 at h
  refine aw_iload_n d_Model_cover_377 rfl rfl ?_
  refine aw_aload_n d_Model_cover_378 rfl rfl ?_
  obtain ⟨t379, e_t379, h⟩ := q_bind h
  refine aw_gti d_Model_cover_379 fl_Model_102 (Or.inl rfl) e_t379 ?_
  refine aw_icmp_ge (tgt := 417) d_Model_cover_382 (by decide) (fun hc => ?_) (fun hc => ?_)
  · rw [if_pos hc] at h
    refine aw_aload_n d_Model_cover_417 rfl rfl ?_
    obtain ⟨t418, e_t418, h⟩ := q_bind h
    refine aw_gtr d_Model_cover_418 fl_Model_130 (Or.inr ⟨_, rfl⟩) e_t418 ?_
    refine aw_iload_n d_Model_cover_421 rfl rfl ?_
    obtain ⟨t422, e_t422, h⟩ := q_bind h
    refine aw_ldl d_Model_cover_422 e_t422 ?_
    refine aw_l2i d_Model_cover_423 ?_
    cases h
    exact aw_ireturn d_Model_cover_424 rfl (Nat.le_of_ble_eq_true rfl) (Nat.le_of_ble_eq_true rfl) ⟨rfl, rfl⟩
  · rw [if_neg hc] at h
    refine aw_aload_n d_Model_cover_385 rfl rfl ?_
    obtain ⟨t386, e_t386, h⟩ := q_bind h
    refine aw_gtr d_Model_cover_386 fl_Model_124 (Or.inr ⟨_, rfl⟩) e_t386 ?_
    refine aw_iload_n d_Model_cover_389 rfl rfl ?_
    refine aw_aload_n d_Model_cover_390 rfl rfl ?_
    obtain ⟨t391, e_t391, h⟩ := q_bind h
    refine aw_gtr d_Model_cover_391 fl_Model_137 (Or.inr ⟨_, rfl⟩) e_t391 ?_
    refine aw_iload_n d_Model_cover_394 rfl rfl ?_
    obtain ⟨t395, e_t395, h⟩ := q_bind h
    refine aw_ldl d_Model_cover_395 e_t395 ?_
    refine aw_iload_n d_Model_cover_396 rfl rfl ?_
    refine aw_lshr d_Model_cover_397 ?_
    refine aw_lconst (v := 1) d_Model_cover_398 (by decide) ?_
    refine aw_land d_Model_cover_399 ?_
    refine aw_lconst (v := 1) d_Model_cover_400 (by decide) ?_
    refine aw_lcmp d_Model_cover_401 ?_
    refine aw_if_ne (tgt := 409) d_Model_cover_402 (by decide) (fun hc => ?_) (fun hc => ?_)
    · rw [if_neg hc] at h
      refine aw_iconst (v := 0) d_Model_cover_409 (by decide) ?_
      exact aw_pick [0, 1, 2] rfl (ih_11 _ _ _ _ _ _ _ _ _ _ _ _ h)
    · rw [if_pos hc] at h
      refine aw_iconst (v := 1) d_Model_cover_405 (by decide) ?_
      refine aw_goto (tgt := 410) d_Model_cover_406 (by decide) ?_
      exact aw_pick [0, 1, 2] rfl (ih_11 _ _ _ _ _ _ _ _ _ _ _ _ h)
set_option maxHeartbeats 4000000 in
theorem s_Model_cover_11 {rc : Nat → Nat → Int32 → Int32 → Int32 → Int32 → Int64 → Int64 → Int32 → Int64 → Int32 → Nat → am_M → Option (Int32 × am_M)} {res : Int32} {M' : am_M} (ih_0 : ∀ (r0 : Nat) (x1 : Int32) (x2 : Int32) (x3 : Int32) (x4 : Int32) (l5 : Int64) (l7 : Int64) (s0 : Int32) (sl0 : Int64) (s1 : Int32) (sr2 : Nat) (M : am_M), rc 0 r0 x1 x2 x3 x4 l5 l7 s0 sl0 s1 sr2 M = some (res, M') → AW u_Model_cover R_Model_cover 0 0 22 [(0, .ref r0), (1, .int x1), (2, .int x2)] [] M (fun r M2 => r = .inl (some (.int res)) ∧ M2 = M')) (ih_1 : ∀ (r0 : Nat) (x1 : Int32) (x2 : Int32) (x3 : Int32) (x4 : Int32) (l5 : Int64) (l7 : Int64) (s0 : Int32) (sl0 : Int64) (s1 : Int32) (sr2 : Nat) (M : am_M), rc 1 r0 x1 x2 x3 x4 l5 l7 s0 sl0 s1 sr2 M = some (res, M') → AW u_Model_cover R_Model_cover 0 0 45 [(0, .ref r0), (2, .int x2)] [.int s0, .int s1] M (fun r M2 => r = .inl (some (.int res)) ∧ M2 = M')) (ih_2 : ∀ (r0 : Nat) (x1 : Int32) (x2 : Int32) (x3 : Int32) (x4 : Int32) (l5 : Int64) (l7 : Int64) (s0 : Int32) (sl0 : Int64) (s1 : Int32) (sr2 : Nat) (M : am_M), rc 2 r0 x1 x2 x3 x4 l5 l7 s0 sl0 s1 sr2 M = some (res, M') → AW u_Model_cover R_Model_cover 0 0 55 [(0, .ref r0), (1, .int x1), (2, .int x2)] [] M (fun r M2 => r = .inl (some (.int res)) ∧ M2 = M')) (ih_3 : ∀ (r0 : Nat) (x1 : Int32) (x2 : Int32) (x3 : Int32) (x4 : Int32) (l5 : Int64) (l7 : Int64) (s0 : Int32) (sl0 : Int64) (s1 : Int32) (sr2 : Nat) (M : am_M), rc 3 r0 x1 x2 x3 x4 l5 l7 s0 sl0 s1 sr2 M = some (res, M') → AW u_Model_cover R_Model_cover 0 0 78 [(0, .ref r0), (1, .int x1), (2, .int x2)] [.long sl0, .int s1, .ref sr2] M (fun r M2 => r = .inl (some (.int res)) ∧ M2 = M')) (ih_4 : ∀ (r0 : Nat) (x1 : Int32) (x2 : Int32) (x3 : Int32) (x4 : Int32) (l5 : Int64) (l7 : Int64) (s0 : Int32) (sl0 : Int64) (s1 : Int32) (sr2 : Nat) (M : am_M), rc 4 r0 x1 x2 x3 x4 l5 l7 s0 sl0 s1 sr2 M = some (res, M') → AW u_Model_cover R_Model_cover 0 0 94 [(0, .ref r0), (1, .int x1), (2, .int x2)] [] M (fun r M2 => r = .inl (some (.int res)) ∧ M2 = M')) (ih_5 : ∀ (r0 : Nat) (x1 : Int32) (x2 : Int32) (x3 : Int32) (x4 : Int32) (l5 : Int64) (l7 : Int64) (s0 : Int32) (sl0 : Int64) (s1 : Int32) (sr2 : Nat) (M : am_M), rc 5 r0 x1 x2 x3 x4 l5 l7 s0 sl0 s1 sr2 M = some (res, M') → AW u_Model_cover R_Model_cover 0 0 104 [(0, .ref r0), (1, .int x1), (2, .int x2), (3, .int x3)] [] M (fun r M2 => r = .inl (some (.int res)) ∧ M2 = M')) (ih_6 : ∀ (r0 : Nat) (x1 : Int32) (x2 : Int32) (x3 : Int32) (x4 : Int32) (l5 : Int64) (l7 : Int64) (s0 : Int32) (sl0 : Int64) (s1 : Int32) (sr2 : Nat) (M : am_M), rc 6 r0 x1 x2 x3 x4 l5 l7 s0 sl0 s1 sr2 M = some (res, M') → AW u_Model_cover R_Model_cover 0 0 143 [(0, .ref r0), (1, .int x1), (2, .int x2), (3, .int x3)] [] M (fun r M2 => r = .inl (some (.int res)) ∧ M2 = M')) (ih_7 : ∀ (r0 : Nat) (x1 : Int32) (x2 : Int32) (x3 : Int32) (x4 : Int32) (l5 : Int64) (l7 : Int64) (s0 : Int32) (sl0 : Int64) (s1 : Int32) (sr2 : Nat) (M : am_M), rc 7 r0 x1 x2 x3 x4 l5 l7 s0 sl0 s1 sr2 M = some (res, M') → AW u_Model_cover R_Model_cover 0 0 288 [(0, .ref r0), (1, .int x1), (2, .int x2), (3, .int x3), (4, .int x4), (5, .long l5), (7, .long l7)] [] M (fun r M2 => r = .inl (some (.int res)) ∧ M2 = M')) (ih_8 : ∀ (r0 : Nat) (x1 : Int32) (x2 : Int32) (x3 : Int32) (x4 : Int32) (l5 : Int64) (l7 : Int64) (s0 : Int32) (sl0 : Int64) (s1 : Int32) (sr2 : Nat) (M : am_M), rc 8 r0 x1 x2 x3 x4 l5 l7 s0 sl0 s1 sr2 M = some (res, M') → AW u_Model_cover R_Model_cover 0 0 306 [(0, .ref r0), (1, .int x1), (2, .int x2), (3, .int x3)] [] M (fun r M2 => r = .inl (some (.int res)) ∧ M2 = M')) (ih_9 : ∀ (r0 : Nat) (x1 : Int32) (x2 : Int32) (x3 : Int32) (x4 : Int32) (l5 : Int64) (l7 : Int64) (s0 : Int32) (sl0 : Int64) (s1 : Int32) (sr2 : Nat) (M : am_M), rc 9 r0 x1 x2 x3 x4 l5 l7 s0 sl0 s1 sr2 M = some (res, M') → AW u_Model_cover R_Model_cover 0 0 314 [(0, .ref r0), (1, .int x1), (2, .int x2), (3, .int x3)] [] M (fun r M2 => r = .inl (some (.int res)) ∧ M2 = M')) (ih_10 : ∀ (r0 : Nat) (x1 : Int32) (x2 : Int32) (x3 : Int32) (x4 : Int32) (l5 : Int64) (l7 : Int64) (s0 : Int32) (sl0 : Int64) (s1 : Int32) (sr2 : Nat) (M : am_M), rc 10 r0 x1 x2 x3 x4 l5 l7 s0 sl0 s1 sr2 M = some (res, M') → AW u_Model_cover R_Model_cover 0 0 377 [(0, .ref r0), (1, .int x1), (2, .int x2)] [] M (fun r M2 => r = .inl (some (.int res)) ∧ M2 = M')) (ih_11 : ∀ (r0 : Nat) (x1 : Int32) (x2 : Int32) (x3 : Int32) (x4 : Int32) (l5 : Int64) (l7 : Int64) (s0 : Int32) (sl0 : Int64) (s1 : Int32) (sr2 : Nat) (M : am_M), rc 11 r0 x1 x2 x3 x4 l5 l7 s0 sl0 s1 sr2 M = some (res, M') → AW u_Model_cover R_Model_cover 0 0 410 [(0, .ref r0), (1, .int x1), (2, .int x2)] [.int s0, .int s1, .ref sr2] M (fun r M2 => r = .inl (some (.int res)) ∧ M2 = M')) : ∀ (r0 : Nat) (x1 : Int32) (x2 : Int32) (x3 : Int32) (x4 : Int32) (l5 : Int64) (l7 : Int64) (s0 : Int32) (sl0 : Int64) (s1 : Int32) (sr2 : Nat) (M : am_M), a_Model_cover_11 rc r0 x1 x2 x3 x4 l5 l7 s0 sl0 s1 sr2 M = some (res, M') → AW u_Model_cover R_Model_cover 0 0 410 [(0, .ref r0), (1, .int x1), (2, .int x2)] [.int s0, .int s1, .ref sr2] M (fun r M2 => r = .inl (some (.int res)) ∧ M2 = M') := by
  intro r0 x1 x2 x3 x4 l5 l7 s0 sl0 s1 sr2 M h
  unfold a_Model_cover_11 at h
  obtain ⟨M410, e_M410, h⟩ := q_bind h
  refine aw_stz d_Model_cover_410 e_M410 ?_
  refine aw_iinc (v := (x2 + (1 : Int32))) (ls' := [(2, .int _), (0, .ref _), (1, .int _)]) d_Model_cover_411 rfl rfl (Nat.le_of_ble_eq_true rfl) rfl ?_
  refine aw_goto (tgt := 377) d_Model_cover_414 (by decide) ?_
  exact aw_pick [1, 2, 0] rfl (ih_10 _ _ _ _ _ _ _ _ _ _ _ _ h)
theorem l_Model_cover {res : Int32} {M' : am_M} : ∀ F : Nat, (∀ (r0 : Nat) (x1 : Int32) (x2 : Int32) (x3 : Int32) (x4 : Int32) (l5 : Int64) (l7 : Int64) (s0 : Int32) (sl0 : Int64) (s1 : Int32) (sr2 : Nat) (M : am_M), g_Model_cover F 0 r0 x1 x2 x3 x4 l5 l7 s0 sl0 s1 sr2 M = some (res, M') → AW u_Model_cover R_Model_cover 0 0 22 [(0, .ref r0), (1, .int x1), (2, .int x2)] [] M (fun r M2 => r = .inl (some (.int res)) ∧ M2 = M')) ∧ (∀ (r0 : Nat) (x1 : Int32) (x2 : Int32) (x3 : Int32) (x4 : Int32) (l5 : Int64) (l7 : Int64) (s0 : Int32) (sl0 : Int64) (s1 : Int32) (sr2 : Nat) (M : am_M), g_Model_cover F 1 r0 x1 x2 x3 x4 l5 l7 s0 sl0 s1 sr2 M = some (res, M') → AW u_Model_cover R_Model_cover 0 0 45 [(0, .ref r0), (2, .int x2)] [.int s0, .int s1] M (fun r M2 => r = .inl (some (.int res)) ∧ M2 = M')) ∧ (∀ (r0 : Nat) (x1 : Int32) (x2 : Int32) (x3 : Int32) (x4 : Int32) (l5 : Int64) (l7 : Int64) (s0 : Int32) (sl0 : Int64) (s1 : Int32) (sr2 : Nat) (M : am_M), g_Model_cover F 2 r0 x1 x2 x3 x4 l5 l7 s0 sl0 s1 sr2 M = some (res, M') → AW u_Model_cover R_Model_cover 0 0 55 [(0, .ref r0), (1, .int x1), (2, .int x2)] [] M (fun r M2 => r = .inl (some (.int res)) ∧ M2 = M')) ∧ (∀ (r0 : Nat) (x1 : Int32) (x2 : Int32) (x3 : Int32) (x4 : Int32) (l5 : Int64) (l7 : Int64) (s0 : Int32) (sl0 : Int64) (s1 : Int32) (sr2 : Nat) (M : am_M), g_Model_cover F 3 r0 x1 x2 x3 x4 l5 l7 s0 sl0 s1 sr2 M = some (res, M') → AW u_Model_cover R_Model_cover 0 0 78 [(0, .ref r0), (1, .int x1), (2, .int x2)] [.long sl0, .int s1, .ref sr2] M (fun r M2 => r = .inl (some (.int res)) ∧ M2 = M')) ∧ (∀ (r0 : Nat) (x1 : Int32) (x2 : Int32) (x3 : Int32) (x4 : Int32) (l5 : Int64) (l7 : Int64) (s0 : Int32) (sl0 : Int64) (s1 : Int32) (sr2 : Nat) (M : am_M), g_Model_cover F 4 r0 x1 x2 x3 x4 l5 l7 s0 sl0 s1 sr2 M = some (res, M') → AW u_Model_cover R_Model_cover 0 0 94 [(0, .ref r0), (1, .int x1), (2, .int x2)] [] M (fun r M2 => r = .inl (some (.int res)) ∧ M2 = M')) ∧ (∀ (r0 : Nat) (x1 : Int32) (x2 : Int32) (x3 : Int32) (x4 : Int32) (l5 : Int64) (l7 : Int64) (s0 : Int32) (sl0 : Int64) (s1 : Int32) (sr2 : Nat) (M : am_M), g_Model_cover F 5 r0 x1 x2 x3 x4 l5 l7 s0 sl0 s1 sr2 M = some (res, M') → AW u_Model_cover R_Model_cover 0 0 104 [(0, .ref r0), (1, .int x1), (2, .int x2), (3, .int x3)] [] M (fun r M2 => r = .inl (some (.int res)) ∧ M2 = M')) ∧ (∀ (r0 : Nat) (x1 : Int32) (x2 : Int32) (x3 : Int32) (x4 : Int32) (l5 : Int64) (l7 : Int64) (s0 : Int32) (sl0 : Int64) (s1 : Int32) (sr2 : Nat) (M : am_M), g_Model_cover F 6 r0 x1 x2 x3 x4 l5 l7 s0 sl0 s1 sr2 M = some (res, M') → AW u_Model_cover R_Model_cover 0 0 143 [(0, .ref r0), (1, .int x1), (2, .int x2), (3, .int x3)] [] M (fun r M2 => r = .inl (some (.int res)) ∧ M2 = M')) ∧ (∀ (r0 : Nat) (x1 : Int32) (x2 : Int32) (x3 : Int32) (x4 : Int32) (l5 : Int64) (l7 : Int64) (s0 : Int32) (sl0 : Int64) (s1 : Int32) (sr2 : Nat) (M : am_M), g_Model_cover F 7 r0 x1 x2 x3 x4 l5 l7 s0 sl0 s1 sr2 M = some (res, M') → AW u_Model_cover R_Model_cover 0 0 288 [(0, .ref r0), (1, .int x1), (2, .int x2), (3, .int x3), (4, .int x4), (5, .long l5), (7, .long l7)] [] M (fun r M2 => r = .inl (some (.int res)) ∧ M2 = M')) ∧ (∀ (r0 : Nat) (x1 : Int32) (x2 : Int32) (x3 : Int32) (x4 : Int32) (l5 : Int64) (l7 : Int64) (s0 : Int32) (sl0 : Int64) (s1 : Int32) (sr2 : Nat) (M : am_M), g_Model_cover F 8 r0 x1 x2 x3 x4 l5 l7 s0 sl0 s1 sr2 M = some (res, M') → AW u_Model_cover R_Model_cover 0 0 306 [(0, .ref r0), (1, .int x1), (2, .int x2), (3, .int x3)] [] M (fun r M2 => r = .inl (some (.int res)) ∧ M2 = M')) ∧ (∀ (r0 : Nat) (x1 : Int32) (x2 : Int32) (x3 : Int32) (x4 : Int32) (l5 : Int64) (l7 : Int64) (s0 : Int32) (sl0 : Int64) (s1 : Int32) (sr2 : Nat) (M : am_M), g_Model_cover F 9 r0 x1 x2 x3 x4 l5 l7 s0 sl0 s1 sr2 M = some (res, M') → AW u_Model_cover R_Model_cover 0 0 314 [(0, .ref r0), (1, .int x1), (2, .int x2), (3, .int x3)] [] M (fun r M2 => r = .inl (some (.int res)) ∧ M2 = M')) ∧ (∀ (r0 : Nat) (x1 : Int32) (x2 : Int32) (x3 : Int32) (x4 : Int32) (l5 : Int64) (l7 : Int64) (s0 : Int32) (sl0 : Int64) (s1 : Int32) (sr2 : Nat) (M : am_M), g_Model_cover F 10 r0 x1 x2 x3 x4 l5 l7 s0 sl0 s1 sr2 M = some (res, M') → AW u_Model_cover R_Model_cover 0 0 377 [(0, .ref r0), (1, .int x1), (2, .int x2)] [] M (fun r M2 => r = .inl (some (.int res)) ∧ M2 = M')) ∧ (∀ (r0 : Nat) (x1 : Int32) (x2 : Int32) (x3 : Int32) (x4 : Int32) (l5 : Int64) (l7 : Int64) (s0 : Int32) (sl0 : Int64) (s1 : Int32) (sr2 : Nat) (M : am_M), g_Model_cover F 11 r0 x1 x2 x3 x4 l5 l7 s0 sl0 s1 sr2 M = some (res, M') → AW u_Model_cover R_Model_cover 0 0 410 [(0, .ref r0), (1, .int x1), (2, .int x2)] [.int s0, .int s1, .ref sr2] M (fun r M2 => r = .inl (some (.int res)) ∧ M2 = M')) := by
  intro F
  induction F with
  | zero => exact ⟨fun _ _ _ _ _ _ _ _ _ _ _ _  h => (by cases h), fun _ _ _ _ _ _ _ _ _ _ _ _  h => (by cases h), fun _ _ _ _ _ _ _ _ _ _ _ _  h => (by cases h), fun _ _ _ _ _ _ _ _ _ _ _ _  h => (by cases h), fun _ _ _ _ _ _ _ _ _ _ _ _  h => (by cases h), fun _ _ _ _ _ _ _ _ _ _ _ _  h => (by cases h), fun _ _ _ _ _ _ _ _ _ _ _ _  h => (by cases h), fun _ _ _ _ _ _ _ _ _ _ _ _  h => (by cases h), fun _ _ _ _ _ _ _ _ _ _ _ _  h => (by cases h), fun _ _ _ _ _ _ _ _ _ _ _ _  h => (by cases h), fun _ _ _ _ _ _ _ _ _ _ _ _  h => (by cases h), fun _ _ _ _ _ _ _ _ _ _ _ _  h => (by cases h)⟩
  | succ F ih =>
    obtain ⟨ih0, ih1, ih2, ih3, ih4, ih5, ih6, ih7, ih8, ih9, ih10, ih11⟩ := ih
    exact ⟨s_Model_cover_0 ih0 ih1 ih2 ih3 ih4 ih5 ih6 ih7 ih8 ih9 ih10 ih11, s_Model_cover_1 ih0 ih1 ih2 ih3 ih4 ih5 ih6 ih7 ih8 ih9 ih10 ih11, s_Model_cover_2 ih0 ih1 ih2 ih3 ih4 ih5 ih6 ih7 ih8 ih9 ih10 ih11, s_Model_cover_3 ih0 ih1 ih2 ih3 ih4 ih5 ih6 ih7 ih8 ih9 ih10 ih11, s_Model_cover_4 ih0 ih1 ih2 ih3 ih4 ih5 ih6 ih7 ih8 ih9 ih10 ih11, s_Model_cover_5 ih0 ih1 ih2 ih3 ih4 ih5 ih6 ih7 ih8 ih9 ih10 ih11, s_Model_cover_6 ih0 ih1 ih2 ih3 ih4 ih5 ih6 ih7 ih8 ih9 ih10 ih11, s_Model_cover_7 ih0 ih1 ih2 ih3 ih4 ih5 ih6 ih7 ih8 ih9 ih10 ih11, s_Model_cover_8 ih0 ih1 ih2 ih3 ih4 ih5 ih6 ih7 ih8 ih9 ih10 ih11, s_Model_cover_9 ih0 ih1 ih2 ih3 ih4 ih5 ih6 ih7 ih8 ih9 ih10 ih11, s_Model_cover_10 ih0 ih1 ih2 ih3 ih4 ih5 ih6 ih7 ih8 ih9 ih10 ih11, s_Model_cover_11 ih0 ih1 ih2 ih3 ih4 ih5 ih6 ih7 ih8 ih9 ih10 ih11⟩
set_option maxHeartbeats 4000000 in
theorem mt_Model_cover {M : am_M} {a0 : Nat} {res : Int32} {M' : am_M} (h : f_Model_cover M a0 = some (res, M')) : AMet y_Model_cover u_Model_cover R_Model_cover [.ref a0] M (fun r M2 => r = .inl (some (.int res)) ∧ M2 = M') := by
  refine am_met (by decide +kernel) w_Model_cover rfl rfl (Nat.le_of_ble_eq_true rfl) ?_
  show AW u_Model_cover R_Model_cover 0 0 0 [(0, .ref a0)] [] M (fun r M2 => r = .inl (some (.int res)) ∧ M2 = M')
  have ih_0 := (l_Model_cover (res := res) (M' := M') 1000000000).1
  have ih_1 := (l_Model_cover (res := res) (M' := M') 1000000000).2.1
  have ih_2 := (l_Model_cover (res := res) (M' := M') 1000000000).2.2.1
  have ih_3 := (l_Model_cover (res := res) (M' := M') 1000000000).2.2.2.1
  have ih_4 := (l_Model_cover (res := res) (M' := M') 1000000000).2.2.2.2.1
  have ih_5 := (l_Model_cover (res := res) (M' := M') 1000000000).2.2.2.2.2.1
  have ih_6 := (l_Model_cover (res := res) (M' := M') 1000000000).2.2.2.2.2.2.1
  have ih_7 := (l_Model_cover (res := res) (M' := M') 1000000000).2.2.2.2.2.2.2.1
  have ih_8 := (l_Model_cover (res := res) (M' := M') 1000000000).2.2.2.2.2.2.2.2.1
  have ih_9 := (l_Model_cover (res := res) (M' := M') 1000000000).2.2.2.2.2.2.2.2.2.1
  have ih_10 := (l_Model_cover (res := res) (M' := M') 1000000000).2.2.2.2.2.2.2.2.2.2.1
  have ih_11 := (l_Model_cover (res := res) (M' := M') 1000000000).2.2.2.2.2.2.2.2.2.2.2
  unfold f_Model_cover at h
  unfold e_Model_cover at h
  generalize g_Model_cover 1000000000 = rc at h ih_0 ih_1 ih_2 ih_3 ih_4 ih_5 ih_6 ih_7 ih_8 ih_9 ih_10 ih_11
  refine aw_aload_n d_Model_cover_0 rfl rfl ?_
  refine aw_iconst (v := 0) d_Model_cover_1 (by decide) ?_
  obtain ⟨M2, e_M2, h⟩ := q_bind h
  refine aw_pti d_Model_cover_2 fl_Model_155 rfl rfl e_M2 ?_
  refine aw_aload_n d_Model_cover_5 rfl rfl ?_
  obtain ⟨o6, e_o6, h⟩ := q_bind h
  obtain ⟨⟨t6, M6⟩, e_t6, h⟩ := q_bind h
  dsimp only at h
  refine aw_cV (v := none) (As := []) (rest := []) (st' := []) d_Model_cover_6 kV_Model_158 (q_ob_spec e_o6).1 (q_ob_spec e_o6).2 ⟨Nat.le_of_ble_eq_true rfl, Nat.le_of_ble_eq_true rfl, Nat.le_of_ble_eq_true rfl, Nat.le_of_ble_eq_true rfl⟩ rfl rfl (Nat.le_of_ble_eq_true rfl) rfl (mt_Model_uncovers e_t6) ?_
  refine aw_aload_n d_Model_cover_9 rfl rfl ?_
  obtain ⟨t10, e_t10, h⟩ := q_bind h
  refine aw_gti d_Model_cover_10 fl_Model_102 (Or.inl rfl) e_t10 ?_
  refine aw_if_ge (tgt := 18) d_Model_cover_13 (by decide) (fun hc => ?_) (fun hc => ?_)
  · rw [if_pos hc] at h
    refine aw_iconst (v := 0) d_Model_cover_18 (by decide) ?_
    refine aw_istore_n (ls' := [(1, .int _), (0, .ref _)]) d_Model_cover_19 rfl (Nat.le_of_ble_eq_true rfl) rfl ?_
    refine aw_iconst (v := 0) d_Model_cover_20 (by decide) ?_
    refine aw_istore_n (ls' := [(2, .int _), (1, .int _), (0, .ref _)]) d_Model_cover_21 rfl (Nat.le_of_ble_eq_true rfl) rfl ?_
    exact aw_pick [2, 1, 0] rfl (ih_0 _ _ _ _ _ _ _ _ _ _ _ _ h)
  · rw [if_neg hc] at h
    refine aw_iconst (v := -1) d_Model_cover_16 (by decide) ?_
    cases h
    exact aw_ireturn d_Model_cover_17 rfl (Nat.le_of_ble_eq_true rfl) (Nat.le_of_ble_eq_true rfl) ⟨rfl, rfl⟩
