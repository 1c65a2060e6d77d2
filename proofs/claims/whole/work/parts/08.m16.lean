-- Model_off Model_pairings Clock_hasNightRest Sharing_valueOf Trip_hasTooLongDuty Trip_lacksNightRest Office_zone
def y_Model_off : MethodName := ⟨"CrewOfficeModel", "off", "(III)V"⟩
def u_Model_off : am_U := ("CrewOfficeModel", "off", prog_12_method_21_code, 4, none, [])
def R_Model_off : Room := { frames := 3, cells := 0, slots := 0, locals := 62 }
theorem d_Model_off_0 : decode u_Model_off.2.2.1 0 = .ok (.aload_n 0, 1) := by decide +kernel
theorem d_Model_off_1 : decode u_Model_off.2.2.1 1 = .ok (.iload_n 1, 1) := by decide +kernel
theorem d_Model_off_2 : decode u_Model_off.2.2.1 2 = .ok (.iconst 0, 1) := by decide +kernel
theorem d_Model_off_3 : decode u_Model_off.2.2.1 3 = .ok (.iconst 3, 1) := by decide +kernel
theorem d_Model_off_4 : decode u_Model_off.2.2.1 4 = .ok (.invokestatic 180, 3) := by decide +kernel
theorem d_Model_off_7 : decode u_Model_off.2.2.1 7 = .ok (.ifCond .eq 25, 3) := by decide +kernel
theorem d_Model_off_10 : decode u_Model_off.2.2.1 10 = .ok (.iload_n 2, 1) := by decide +kernel
theorem d_Model_off_11 : decode u_Model_off.2.2.1 11 = .ok (.iconst 0, 1) := by decide +kernel
theorem d_Model_off_12 : decode u_Model_off.2.2.1 12 = .ok (.sipush 20160, 3) := by decide +kernel
theorem d_Model_off_15 : decode u_Model_off.2.2.1 15 = .ok (.invokestatic 180, 3) := by decide +kernel
theorem d_Model_off_18 : decode u_Model_off.2.2.1 18 = .ok (.ifCond .eq 14, 3) := by decide +kernel
theorem d_Model_off_21 : decode u_Model_off.2.2.1 21 = .ok (.iload_n 3, 1) := by decide +kernel
theorem d_Model_off_22 : decode u_Model_off.2.2.1 22 = .ok (.iconst 0, 1) := by decide +kernel
theorem d_Model_off_23 : decode u_Model_off.2.2.1 23 = .ok (.sipush 20160, 3) := by decide +kernel
theorem d_Model_off_26 : decode u_Model_off.2.2.1 26 = .ok (.invokestatic 180, 3) := by decide +kernel
theorem d_Model_off_29 : decode u_Model_off.2.2.1 29 = .ok (.ifCond .ne 7, 3) := by decide +kernel
theorem d_Model_off_32 : decode u_Model_off.2.2.1 32 = .ok (.iconst 1, 1) := by decide +kernel
theorem d_Model_off_33 : decode u_Model_off.2.2.1 33 = .ok (.goto 4, 3) := by decide +kernel
theorem d_Model_off_36 : decode u_Model_off.2.2.1 36 = .ok (.iconst 0, 1) := by decide +kernel
theorem d_Model_off_37 : decode u_Model_off.2.2.1 37 = .ok (.iconst 1, 1) := by decide +kernel
theorem d_Model_off_38 : decode u_Model_off.2.2.1 38 = .ok (.invokevirtual 184, 3) := by decide +kernel
theorem d_Model_off_41 : decode u_Model_off.2.2.1 41 = .ok (.ifCond .ne 25, 3) := by decide +kernel
theorem d_Model_off_44 : decode u_Model_off.2.2.1 44 = .ok (.aload_n 0, 1) := by decide +kernel
theorem d_Model_off_45 : decode u_Model_off.2.2.1 45 = .ok (.aload_n 0, 1) := by decide +kernel
theorem d_Model_off_46 : decode u_Model_off.2.2.1 46 = .ok (.getfield 45, 3) := by decide +kernel
theorem d_Model_off_49 : decode u_Model_off.2.2.1 49 = .ok (.iload_n 1, 1) := by decide +kernel
theorem d_Model_off_50 : decode u_Model_off.2.2.1 50 = .ok (.baload, 1) := by decide +kernel
theorem d_Model_off_51 : decode u_Model_off.2.2.1 51 = .ok (.ifCond .ne 7, 3) := by decide +kernel
theorem d_Model_off_54 : decode u_Model_off.2.2.1 54 = .ok (.iconst 1, 1) := by decide +kernel
theorem d_Model_off_55 : decode u_Model_off.2.2.1 55 = .ok (.goto 4, 3) := by decide +kernel
theorem d_Model_off_58 : decode u_Model_off.2.2.1 58 = .ok (.iconst 0, 1) := by decide +kernel
theorem d_Model_off_59 : decode u_Model_off.2.2.1 59 = .ok (.iconst 2, 1) := by decide +kernel
theorem d_Model_off_60 : decode u_Model_off.2.2.1 60 = .ok (.invokevirtual 184, 3) := by decide +kernel
theorem d_Model_off_63 : decode u_Model_off.2.2.1 63 = .ok (.ifCond .eq 4, 3) := by decide +kernel
theorem d_Model_off_66 : decode u_Model_off.2.2.1 66 = .ok (.return_, 1) := by decide +kernel
theorem d_Model_off_67 : decode u_Model_off.2.2.1 67 = .ok (.aload_n 0, 1) := by decide +kernel
theorem d_Model_off_68 : decode u_Model_off.2.2.1 68 = .ok (.getfield 60, 3) := by decide +kernel
theorem d_Model_off_71 : decode u_Model_off.2.2.1 71 = .ok (.iload_n 1, 1) := by decide +kernel
theorem d_Model_off_72 : decode u_Model_off.2.2.1 72 = .ok (.iload_n 2, 1) := by decide +kernel
theorem d_Model_off_73 : decode u_Model_off.2.2.1 73 = .ok (.iastore, 1) := by decide +kernel
theorem d_Model_off_74 : decode u_Model_off.2.2.1 74 = .ok (.aload_n 0, 1) := by decide +kernel
theorem d_Model_off_75 : decode u_Model_off.2.2.1 75 = .ok (.getfield 63, 3) := by decide +kernel
theorem d_Model_off_78 : decode u_Model_off.2.2.1 78 = .ok (.iload_n 1, 1) := by decide +kernel
theorem d_Model_off_79 : decode u_Model_off.2.2.1 79 = .ok (.iload_n 3, 1) := by decide +kernel
theorem d_Model_off_80 : decode u_Model_off.2.2.1 80 = .ok (.iastore, 1) := by decide +kernel
theorem d_Model_off_81 : decode u_Model_off.2.2.1 81 = .ok (.aload_n 0, 1) := by decide +kernel
theorem d_Model_off_82 : decode u_Model_off.2.2.1 82 = .ok (.invokevirtual 188, 3) := by decide +kernel
theorem d_Model_off_85 : decode u_Model_off.2.2.1 85 = .ok (.return_, 1) := by decide +kernel
theorem w_Model_off : am_code y_Model_off u_Model_off ∈ am_ws := am_mem (List.mem_of_getElem? (i := 1231) (by decide +kernel)) rfl
def a_Model_off_0 (rc : Nat → Nat → Int32 → Int32 → Int32 → Int32 → Nat → Nat → am_M → Option (Unit × am_M)) (r0 : Nat) (x1 : Int32) (x2 : Int32) (x3 : Int32) (s0 : Int32) (sr0 : Nat) (sr1 : Nat) (M : am_M) : Option (Unit × am_M) := rc 1 r0 x1 x2 x3 (1 : Int32) 0 sr0 M
def a_Model_off_1 (rc : Nat → Nat → Int32 → Int32 → Int32 → Int32 → Nat → Nat → am_M → Option (Unit × am_M)) (r0 : Nat) (x1 : Int32) (x2 : Int32) (x3 : Int32) (s0 : Int32) (sr0 : Nat) (sr1 : Nat) (M : am_M) : Option (Unit × am_M) := (q_ob M sr1 10).bind (fun o38 => (f_Model_fails M sr1 s0 (1 : Int32)).bind (fun p38 => if p38.1 = 0 then ((q_gtr p38.2 r0 10 12).bind (fun t46 => (q_ldz p38.2 t46 x1).bind (fun t50 => if t50 = 0 then (rc 2 r0 x1 x2 x3 (1 : Int32) 0 r0 p38.2) else (rc 2 r0 x1 x2 x3 (0 : Int32) 0 r0 p38.2)))) else (some ((), p38.2))))
def a_Model_off_2 (rc : Nat → Nat → Int32 → Int32 → Int32 → Int32 → Nat → Nat → am_M → Option (Unit × am_M)) (r0 : Nat) (x1 : Int32) (x2 : Int32) (x3 : Int32) (s0 : Int32) (sr0 : Nat) (sr1 : Nat) (M : am_M) : Option (Unit × am_M) := (q_ob M sr1 10).bind (fun o60 => (f_Model_fails M sr1 s0 (2 : Int32)).bind (fun p60 => if p60.1 = 0 then ((q_gtr p60.2 r0 10 17).bind (fun t68 => (q_sti p60.2 t68 x1 x2).bind (fun M73 => (q_gtr M73 r0 10 18).bind (fun t75 => (q_sti M73 t75 x1 x3).bind (fun M80 => (q_ob M80 r0 10).bind (fun o82 => (f_Model_loses M80 r0).bind (fun p82 => some ((), p82.2)))))))) else (some ((), p60.2))))
def g_Model_off : Nat → Nat → Nat → Int32 → Int32 → Int32 → Int32 → Nat → Nat → am_M → Option (Unit × am_M)
  | 0, _, _, _, _, _, _, _, _, _ => none
  | F + 1, 0, r0, x1, x2, x3, s0, sr0, sr1, M => a_Model_off_0 (g_Model_off F) r0 x1 x2 x3 s0 sr0 sr1 M
  | F + 1, 1, r0, x1, x2, x3, s0, sr0, sr1, M => a_Model_off_1 (g_Model_off F) r0 x1 x2 x3 s0 sr0 sr1 M
  | F + 1, 2, r0, x1, x2, x3, s0, sr0, sr1, M => a_Model_off_2 (g_Model_off F) r0 x1 x2 x3 s0 sr0 sr1 M
  | _ + 1, _ + 3, _, _, _, _, _, _, _, _ => none
def e_Model_off (rc : Nat → Nat → Int32 → Int32 → Int32 → Int32 → Nat → Nat → am_M → Option (Unit × am_M)) (M : am_M) (a0 : Nat) (a1 : Int32) (a2 : Int32) (a3 : Int32) : Option (Unit × am_M) := (f_Model_within M a1 (0 : Int32) (3 : Int32)).bind (fun t4 => if t4 = 0 then (rc 0 a0 a1 a2 a3 0 a0 0 M) else ((f_Model_within M a2 (0 : Int32) (20160 : Int32)).bind (fun t15 => if t15 = 0 then (rc 0 a0 a1 a2 a3 0 a0 0 M) else ((f_Model_within M a3 (0 : Int32) (20160 : Int32)).bind (fun t26 => if t26 = 0 then (rc 0 a0 a1 a2 a3 0 a0 0 M) else (rc 1 a0 a1 a2 a3 (0 : Int32) 0 a0 M))))))
def f_Model_off (M : am_M) (a0 : Nat) (a1 : Int32) (a2 : Int32) (a3 : Int32) : Option (Unit × am_M) := e_Model_off (g_Model_off 1000000000) M a0 a1 a2 a3
set_option maxHeartbeats 4000000 in
theorem s_Model_off_0 {rc : Nat → Nat → Int32 → Int32 → Int32 → Int32 → Nat → Nat → am_M → Option (Unit × am_M)} {res : Unit} {M' : am_M} (ih_0 : ∀ (r0 : Nat) (x1 : Int32) (x2 : Int32) (x3 : Int32) (s0 : Int32) (sr0 : Nat) (sr1 : Nat) (M : am_M), rc 0 r0 x1 x2 x3 s0 sr0 sr1 M = some (res, M') → AW u_Model_off R_Model_off 0 0 32 [(0, .ref r0), (1, .int x1), (2, .int x2), (3, .int x3)] [.ref sr0] M (fun r M2 => r = .inl none ∧ M2 = M')) (ih_1 : ∀ (r0 : Nat) (x1 : Int32) (x2 : Int32) (x3 : Int32) (s0 : Int32) (sr0 : Nat) (sr1 : Nat) (M : am_M), rc 1 r0 x1 x2 x3 s0 sr0 sr1 M = some (res, M') → AW u_Model_off R_Model_off 0 0 37 [(0, .ref r0), (1, .int x1), (2, .int x2), (3, .int x3)] [.int s0, .ref sr1] M (fun r M2 => r = .inl none ∧ M2 = M')) (ih_2 : ∀ (r0 : Nat) (x1 : Int32) (x2 : Int32) (x3 : Int32) (s0 : Int32) (sr0 : Nat) (sr1 : Nat) (M : am_M), rc 2 r0 x1 x2 x3 s0 sr0 sr1 M = some (res, M') → AW u_Model_off R_Model_off 0 0 59 [(0, .ref r0), (1, .int x1), (2, .int x2), (3, .int x3)] [.int s0, .ref sr1] M (fun r M2 => r = .inl none ∧ M2 = M')) : ∀ (r0 : Nat) (x1 : Int32) (x2 : Int32) (x3 : Int32) (s0 : Int32) (sr0 : Nat) (sr1 : Nat) (M : am_M), a_Model_off_0 rc r0 x1 x2 x3 s0 sr0 sr1 M = some (res, M') → AW u_Model_off R_Model_off 0 0 32 [(0, .ref r0), (1, .int x1), (2, .int x2), (3, .int x3)] [.ref sr0] M (fun r M2 => r = .inl none ∧ M2 = M') := by
  intro r0 x1 x2 x3 s0 sr0 sr1 M h
  unfold a_Model_off_0 at h
  refine aw_iconst (v := 1) d_Model_off_32 (by decide) ?_
  refine aw_goto (tgt := 37) d_Model_off_33 (by decide) ?_
  exact aw_pick [0, 1, 2, 3] rfl (ih_1 _ _ _ _ _ _ _ _ h)
set_option maxHeartbeats 4000000 in
theorem s_Model_off_1 {rc : Nat → Nat → Int32 → Int32 → Int32 → Int32 → Nat → Nat → am_M → Option (Unit × am_M)} {res : Unit} {M' : am_M} (ih_0 : ∀ (r0 : Nat) (x1 : Int32) (x2 : Int32) (x3 : Int32) (s0 : Int32) (sr0 : Nat) (sr1 : Nat) (M : am_M), rc 0 r0 x1 x2 x3 s0 sr0 sr1 M = some (res, M') → AW u_Model_off R_Model_off 0 0 32 [(0, .ref r0), (1, .int x1), (2, .int x2), (3, .int x3)] [.ref sr0] M (fun r M2 => r = .inl none ∧ M2 = M')) (ih_1 : ∀ (r0 : Nat) (x1 : Int32) (x2 : Int32) (x3 : Int32) (s0 : Int32) (sr0 : Nat) (sr1 : Nat) (M : am_M), rc 1 r0 x1 x2 x3 s0 sr0 sr1 M = some (res, M') → AW u_Model_off R_Model_off 0 0 37 [(0, .ref r0), (1, .int x1), (2, .int x2), (3, .int x3)] [.int s0, .ref sr1] M (fun r M2 => r = .inl none ∧ M2 = M')) (ih_2 : ∀ (r0 : Nat) (x1 : Int32) (x2 : Int32) (x3 : Int32) (s0 : Int32) (sr0 : Nat) (sr1 : Nat) (M : am_M), rc 2 r0 x1 x2 x3 s0 sr0 sr1 M = some (res, M') → AW u_Model_off R_Model_off 0 0 59 [(0, .ref r0), (1, .int x1), (2, .int x2), (3, .int x3)] [.int s0, .ref sr1] M (fun r M2 => r = .inl none ∧ M2 = M')) : ∀ (r0 : Nat) (x1 : Int32) (x2 : Int32) (x3 : Int32) (s0 : Int32) (sr0 : Nat) (sr1 : Nat) (M : am_M), a_Model_off_1 rc r0 x1 x2 x3 s0 sr0 sr1 M = some (res, M') → AW u_Model_off R_Model_off 0 0 37 [(0, .ref r0), (1, .int x1), (2, .int x2), (3, .int x3)] [.int s0, .ref sr1] M (fun r M2 => r = .inl none ∧ M2 = M') := by
  intro r0 x1 x2 x3 s0 sr0 sr1 M h
  unfold a_Model_off_1 at h
  refine aw_iconst (v := 1) d_Model_off_37 (by decide) ?_
  obtain ⟨o38, e_o38, h⟩ := q_bind h
  obtain ⟨⟨t38, M38⟩, e_t38, h⟩ := q_bind h
  dsimp only at h
  refine aw_cV (v := (some (.int t38))) (As := [.int s0, .int (1 : Int32)]) (rest := []) (st' := [.int t38]) d_Model_off_38 kV_Model_184 (q_ob_spec e_o38).1 (q_ob_spec e_o38).2 ⟨Nat.le_of_ble_eq_true rfl, Nat.le_of_ble_eq_true rfl, Nat.le_of_ble_eq_true rfl, Nat.le_of_ble_eq_true rfl⟩ rfl rfl (Nat.le_of_ble_eq_true rfl) rfl (mt_Model_fails e_t38) ?_
  refine aw_if_ne (tgt := 66) d_Model_off_41 (by decide) (fun hc => ?_) (fun hc => ?_)
  · rw [if_neg hc] at h
    cases h
    exact aw_vreturn d_Model_off_66 rfl (Nat.le_of_ble_eq_true rfl) (Nat.le_of_ble_eq_true rfl) ⟨rfl, rfl⟩
  · rw [if_pos hc] at h
    refine aw_aload_n d_Model_off_44 rfl rfl ?_
    refine aw_aload_n d_Model_off_45 rfl rfl ?_
    obtain ⟨t46, e_t46, h⟩ := q_bind h
    refine aw_gtr d_Model_off_46 fl_Model_45 (Or.inr ⟨_, rfl⟩) e_t46 ?_
    refine aw_iload_n d_Model_off_49 rfl rfl ?_
    obtain ⟨t50, e_t50, h⟩ := q_bind h
    refine aw_ldz d_Model_off_50 e_t50 ?_
    refine aw_if_ne (tgt := 58) d_Model_off_51 (by decide) (fun hc => ?_) (fun hc => ?_)
    · rw [if_neg hc] at h
      refine aw_iconst (v := 0) d_Model_off_58 (by decide) ?_
      exact aw_pick [0, 1, 2, 3] rfl (ih_2 _ _ _ _ _ _ _ _ h)
    · rw [if_pos hc] at h
      refine aw_iconst (v := 1) d_Model_off_54 (by decide) ?_
      refine aw_goto (tgt := 59) d_Model_off_55 (by decide) ?_
      exact aw_pick [0, 1, 2, 3] rfl (ih_2 _ _ _ _ _ _ _ _ h)
set_option maxHeartbeats 4000000 in
theorem s_Model_off_2 {rc : Nat → Nat → Int32 → Int32 → Int32 → Int32 → Nat → Nat → am_M → Option (Unit × am_M)} {res : Unit} {M' : am_M} (ih_0 : ∀ (r0 : Nat) (x1 : Int32) (x2 : Int32) (x3 : Int32) (s0 : Int32) (sr0 : Nat) (sr1 : Nat) (M : am_M), rc 0 r0 x1 x2 x3 s0 sr0 sr1 M = some (res, M') → AW u_Model_off R_Model_off 0 0 32 [(0, .ref r0), (1, .int x1), (2, .int x2), (3, .int x3)] [.ref sr0] M (fun r M2 => r = .inl none ∧ M2 = M')) (ih_1 : ∀ (r0 : Nat) (x1 : Int32) (x2 : Int32) (x3 : Int32) (s0 : Int32) (sr0 : Nat) (sr1 : Nat) (M : am_M), rc 1 r0 x1 x2 x3 s0 sr0 sr1 M = some (res, M') → AW u_Model_off R_Model_off 0 0 37 [(0, .ref r0), (1, .int x1), (2, .int x2), (3, .int x3)] [.int s0, .ref sr1] M (fun r M2 => r = .inl none ∧ M2 = M')) (ih_2 : ∀ (r0 : Nat) (x1 : Int32) (x2 : Int32) (x3 : Int32) (s0 : Int32) (sr0 : Nat) (sr1 : Nat) (M : am_M), rc 2 r0 x1 x2 x3 s0 sr0 sr1 M = some (res, M') → AW u_Model_off R_Model_off 0 0 59 [(0, .ref r0), (1, .int x1), (2, .int x2), (3, .int x3)] [.int s0, .ref sr1] M (fun r M2 => r = .inl none ∧ M2 = M')) : ∀ (r0 : Nat) (x1 : Int32) (x2 : Int32) (x3 : Int32) (s0 : Int32) (sr0 : Nat) (sr1 : Nat) (M : am_M), a_Model_off_2 rc r0 x1 x2 x3 s0 sr0 sr1 M = some (res, M') → AW u_Model_off R_Model_off 0 0 59 [(0, .ref r0), (1, .int x1), (2, .int x2), (3, .int x3)] [.int s0, .ref sr1] M (fun r M2 => r = .inl none ∧ M2 = M') := by
  intro r0 x1 x2 x3 s0 sr0 sr1 M h
  unfold a_Model_off_2 at h
  refine aw_iconst (v := 2) d_Model_off_59 (by decide) ?_
  obtain ⟨o60, e_o60, h⟩ := q_bind h
  obtain ⟨⟨t60, M60⟩, e_t60, h⟩ := q_bind h
  dsimp only at h
  refine aw_cV (v := (some (.int t60))) (As := [.int s0, .int (2 : Int32)]) (rest := []) (st' := [.int t60]) d_Model_off_60 kV_Model_184 (q_ob_spec e_o60).1 (q_ob_spec e_o60).2 ⟨Nat.le_of_ble_eq_true rfl, Nat.le_of_ble_eq_true rfl, Nat.le_of_ble_eq_true rfl, Nat.le_of_ble_eq_true rfl⟩ rfl rfl (Nat.le_of_ble_eq_true rfl) rfl (mt_Model_fails e_t60) ?_
  refine aw_if_eq (tgt := 67) d_Model_off_63 (by decide) (fun hc => ?_) (fun hc => ?_)
  · rw [if_pos hc] at h
    refine aw_aload_n d_Model_off_67 rfl rfl ?_
    obtain ⟨t68, e_t68, h⟩ := q_bind h
    refine aw_gtr d_Model_off_68 fl_Model_60 (Or.inr ⟨_, rfl⟩) e_t68 ?_
    refine aw_iload_n d_Model_off_71 rfl rfl ?_
    refine aw_iload_n d_Model_off_72 rfl rfl ?_
    obtain ⟨M73, e_M73, h⟩ := q_bind h
    refine aw_sti d_Model_off_73 e_M73 ?_
    refine aw_aload_n d_Model_off_74 rfl rfl ?_
    obtain ⟨t75, e_t75, h⟩ := q_bind h
    refine aw_gtr d_Model_off_75 fl_Model_63 (Or.inr ⟨_, rfl⟩) e_t75 ?_
    refine aw_iload_n d_Model_off_78 rfl rfl ?_
    refine aw_iload_n d_Model_off_79 rfl rfl ?_
    obtain ⟨M80, e_M80, h⟩ := q_bind h
    refine aw_sti d_Model_off_80 e_M80 ?_
    refine aw_aload_n d_Model_off_81 rfl rfl ?_
    obtain ⟨o82, e_o82, h⟩ := q_bind h
    obtain ⟨⟨t82, M82⟩, e_t82, h⟩ := q_bind h
    dsimp only at h
    refine aw_cV (v := none) (As := []) (rest := []) (st' := []) d_Model_off_82 kV_Model_188 (q_ob_spec e_o82).1 (q_ob_spec e_o82).2 ⟨Nat.le_of_ble_eq_true rfl, Nat.le_of_ble_eq_true rfl, Nat.le_of_ble_eq_true rfl, Nat.le_of_ble_eq_true rfl⟩ rfl rfl (Nat.le_of_ble_eq_true rfl) rfl (mt_Model_loses e_t82) ?_
    cases h
    exact aw_vreturn d_Model_off_85 rfl (Nat.le_of_ble_eq_true rfl) (Nat.le_of_ble_eq_true rfl) ⟨rfl, rfl⟩
  · rw [if_neg hc] at h
    cases h
    exact aw_vreturn d_Model_off_66 rfl (Nat.le_of_ble_eq_true rfl) (Nat.le_of_ble_eq_true rfl) ⟨rfl, rfl⟩
theorem l_Model_off {res : Unit} {M' : am_M} : ∀ F : Nat, (∀ (r0 : Nat) (x1 : Int32) (x2 : Int32) (x3 : Int32) (s0 : Int32) (sr0 : Nat) (sr1 : Nat) (M : am_M), g_Model_off F 0 r0 x1 x2 x3 s0 sr0 sr1 M = some (res, M') → AW u_Model_off R_Model_off 0 0 32 [(0, .ref r0), (1, .int x1), (2, .int x2), (3, .int x3)] [.ref sr0] M (fun r M2 => r = .inl none ∧ M2 = M')) ∧ (∀ (r0 : Nat) (x1 : Int32) (x2 : Int32) (x3 : Int32) (s0 : Int32) (sr0 : Nat) (sr1 : Nat) (M : am_M), g_Model_off F 1 r0 x1 x2 x3 s0 sr0 sr1 M = some (res, M') → AW u_Model_off R_Model_off 0 0 37 [(0, .ref r0), (1, .int x1), (2, .int x2), (3, .int x3)] [.int s0, .ref sr1] M (fun r M2 => r = .inl none ∧ M2 = M')) ∧ (∀ (r0 : Nat) (x1 : Int32) (x2 : Int32) (x3 : Int32) (s0 : Int32) (sr0 : Nat) (sr1 : Nat) (M : am_M), g_Model_off F 2 r0 x1 x2 x3 s0 sr0 sr1 M = some (res, M') → AW u_Model_off R_Model_off 0 0 59 [(0, .ref r0), (1, .int x1), (2, .int x2), (3, .int x3)] [.int s0, .ref sr1] M (fun r M2 => r = .inl none ∧ M2 = M')) := by
  intro F
  induction F with
  | zero => exact ⟨fun _ _ _ _ _ _ _ _  h => (by cases h), fun _ _ _ _ _ _ _ _  h => (by cases h), fun _ _ _ _ _ _ _ _  h => (by cases h)⟩
  | succ F ih =>
    obtain ⟨ih0, ih1, ih2⟩ := ih
    exact ⟨s_Model_off_0 ih0 ih1 ih2, s_Model_off_1 ih0 ih1 ih2, s_Model_off_2 ih0 ih1 ih2⟩
set_option maxHeartbeats 4000000 in
theorem mt_Model_off {M : am_M} {a0 : Nat} {a1 : Int32} {a2 : Int32} {a3 : Int32} {res : Unit} {M' : am_M} (h : f_Model_off M a0 a1 a2 a3 = some (res, M')) : AMet y_Model_off u_Model_off R_Model_off [.ref a0, .int a1, .int a2, .int a3] M (fun r M2 => r = .inl none ∧ M2 = M') := by
  refine am_met (by decide +kernel) w_Model_off rfl rfl (Nat.le_of_ble_eq_true rfl) ?_
  show AW u_Model_off R_Model_off 0 0 0 [(0, .ref a0), (1, .int a1), (2, .int a2), (3, .int a3)] [] M (fun r M2 => r = .inl none ∧ M2 = M')
  have ih_0 := (l_Model_off (res := res) (M' := M') 1000000000).1
  have ih_1 := (l_Model_off (res := res) (M' := M') 1000000000).2.1
  have ih_2 := (l_Model_off (res := res) (M' := M') 1000000000).2.2
  unfold f_Model_off at h
  unfold e_Model_off at h
  generalize g_Model_off 1000000000 = rc at h ih_0 ih_1 ih_2
  refine aw_aload_n d_Model_off_0 rfl rfl ?_
  refine aw_iload_n d_Model_off_1 rfl rfl ?_
  refine aw_iconst (v := 0) d_Model_off_2 (by decide) ?_
  refine aw_iconst (v := 3) d_Model_off_3 (by decide) ?_
  obtain ⟨t4, e_t4, h⟩ := q_bind h
  refine aw_cS (v := (some (.int t4))) (As := [.int a1, .int (0 : Int32), .int (3 : Int32)]) (rest := [.ref a0]) (st' := [.int t4, .ref a0]) d_Model_off_4 kS_Model_180 ⟨Nat.le_of_ble_eq_true rfl, Nat.le_of_ble_eq_true rfl, Nat.le_of_ble_eq_true rfl, Nat.le_of_ble_eq_true rfl⟩ rfl rfl (Nat.le_of_ble_eq_true rfl) rfl (mt_Model_within e_t4) ?_
  refine aw_if_eq (tgt := 32) d_Model_off_7 (by decide) (fun hc => ?_) (fun hc => ?_)
  · rw [if_pos hc] at h
    exact aw_pick [0, 1, 2, 3] rfl (ih_0 _ _ _ _ _ _ _ _ h)
  · rw [if_neg hc] at h
    refine aw_iload_n d_Model_off_10 rfl rfl ?_
    refine aw_iconst (v := 0) d_Model_off_11 (by decide) ?_
    refine aw_sipush (v := 20160) d_Model_off_12 (by decide) ?_
    obtain ⟨t15, e_t15, h⟩ := q_bind h
    refine aw_cS (v := (some (.int t15))) (As := [.int a2, .int (0 : Int32), .int (20160 : Int32)]) (rest := [.ref a0]) (st' := [.int t15, .ref a0]) d_Model_off_15 kS_Model_180 ⟨Nat.le_of_ble_eq_true rfl, Nat.le_of_ble_eq_true rfl, Nat.le_of_ble_eq_true rfl, Nat.le_of_ble_eq_true rfl⟩ rfl rfl (Nat.le_of_ble_eq_true rfl) rfl (mt_Model_within e_t15) ?_
    refine aw_if_eq (tgt := 32) d_Model_off_18 (by decide) (fun hc => ?_) (fun hc => ?_)
    · rw [if_pos hc] at h
      exact aw_pick [0, 1, 2, 3] rfl (ih_0 _ _ _ _ _ _ _ _ h)
    · rw [if_neg hc] at h
      refine aw_iload_n d_Model_off_21 rfl rfl ?_
      refine aw_iconst (v := 0) d_Model_off_22 (by decide) ?_
      refine aw_sipush (v := 20160) d_Model_off_23 (by decide) ?_
      obtain ⟨t26, e_t26, h⟩ := q_bind h
      refine aw_cS (v := (some (.int t26))) (As := [.int a3, .int (0 : Int32), .int (20160 : Int32)]) (rest := [.ref a0]) (st' := [.int t26, .ref a0]) d_Model_off_26 kS_Model_180 ⟨Nat.le_of_ble_eq_true rfl, Nat.le_of_ble_eq_true rfl, Nat.le_of_ble_eq_true rfl, Nat.le_of_ble_eq_true rfl⟩ rfl rfl (Nat.le_of_ble_eq_true rfl) rfl (mt_Model_within e_t26) ?_
      refine aw_if_ne (tgt := 36) d_Model_off_29 (by decide) (fun hc => ?_) (fun hc => ?_)
      · rw [if_neg hc] at h
        refine aw_iconst (v := 0) d_Model_off_36 (by decide) ?_
        exact aw_pick [0, 1, 2, 3] rfl (ih_1 _ _ _ _ _ _ _ _ h)
      · rw [if_pos hc] at h
        exact aw_pick [0, 1, 2, 3] rfl (ih_0 _ _ _ _ _ _ _ _ h)
def y_Model_pairings : MethodName := ⟨"CrewOfficeModel", "pairings", "()I"⟩
def u_Model_pairings : am_U := ("CrewOfficeModel", "pairings", prog_12_method_36_code, 5, (some .int), [])
def R_Model_pairings : Room := { frames := 6, cells := 0, slots := 0, locals := 138 }
theorem d_Model_pairings_0 : decode u_Model_pairings.2.2.1 0 = .ok (.aload_n 0, 1) := by decide +kernel
theorem d_Model_pairings_1 : decode u_Model_pairings.2.2.1 1 = .ok (.iconst 0, 1) := by decide +kernel
theorem d_Model_pairings_2 : decode u_Model_pairings.2.2.1 2 = .ok (.putfield 155, 3) := by decide +kernel
theorem d_Model_pairings_5 : decode u_Model_pairings.2.2.1 5 = .ok (.aload_n 0, 1) := by decide +kernel
theorem d_Model_pairings_6 : decode u_Model_pairings.2.2.1 6 = .ok (.invokevirtual 188, 3) := by decide +kernel
theorem d_Model_pairings_9 : decode u_Model_pairings.2.2.1 9 = .ok (.iconst 0, 1) := by decide +kernel
theorem d_Model_pairings_10 : decode u_Model_pairings.2.2.1 10 = .ok (.istore_n 1, 1) := by decide +kernel
theorem d_Model_pairings_11 : decode u_Model_pairings.2.2.1 11 = .ok (.iconst 1, 1) := by decide +kernel
theorem d_Model_pairings_12 : decode u_Model_pairings.2.2.1 12 = .ok (.istore_n 2, 1) := by decide +kernel
theorem d_Model_pairings_13 : decode u_Model_pairings.2.2.1 13 = .ok (.iload_n 2, 1) := by decide +kernel
theorem d_Model_pairings_14 : decode u_Model_pairings.2.2.1 14 = .ok (.sipush 4096, 3) := by decide +kernel
theorem d_Model_pairings_17 : decode u_Model_pairings.2.2.1 17 = .ok (.if_icmp .ge 178, 3) := by decide +kernel
theorem d_Model_pairings_20 : decode u_Model_pairings.2.2.1 20 = .ok (.iload_n 1, 1) := by decide +kernel
theorem d_Model_pairings_21 : decode u_Model_pairings.2.2.1 21 = .ok (.ifCond .lt 174, 3) := by decide +kernel
theorem d_Model_pairings_24 : decode u_Model_pairings.2.2.1 24 = .ok (.iload_n 2, 1) := by decide +kernel
theorem d_Model_pairings_25 : decode u_Model_pairings.2.2.1 25 = .ok (.invokestatic 232, 3) := by decide +kernel
theorem d_Model_pairings_28 : decode u_Model_pairings.2.2.1 28 = .ok (.bipush 8, 2) := by decide +kernel
theorem d_Model_pairings_30 : decode u_Model_pairings.2.2.1 30 = .ok (.if_icmp .gt 159, 3) := by decide +kernel
theorem d_Model_pairings_33 : decode u_Model_pairings.2.2.1 33 = .ok (.aload_n 0, 1) := by decide +kernel
theorem d_Model_pairings_34 : decode u_Model_pairings.2.2.1 34 = .ok (.iload_n 2, 1) := by decide +kernel
theorem d_Model_pairings_35 : decode u_Model_pairings.2.2.1 35 = .ok (.invokevirtual 235, 3) := by decide +kernel
theorem d_Model_pairings_38 : decode u_Model_pairings.2.2.1 38 = .ok (.ifCond .eq 151, 3) := by decide +kernel
theorem d_Model_pairings_41 : decode u_Model_pairings.2.2.1 41 = .ok (.aload_n 0, 1) := by decide +kernel
theorem d_Model_pairings_42 : decode u_Model_pairings.2.2.1 42 = .ok (.iconst (-1), 1) := by decide +kernel
theorem d_Model_pairings_43 : decode u_Model_pairings.2.2.1 43 = .ok (.invokevirtual 229, 3) := by decide +kernel
theorem d_Model_pairings_46 : decode u_Model_pairings.2.2.1 46 = .ok (.ifCond .le 6, 3) := by decide +kernel
theorem d_Model_pairings_49 : decode u_Model_pairings.2.2.1 49 = .ok (.goto 140, 3) := by decide +kernel
theorem d_Model_pairings_52 : decode u_Model_pairings.2.2.1 52 = .ok (.iload_n 1, 1) := by decide +kernel
theorem d_Model_pairings_53 : decode u_Model_pairings.2.2.1 53 = .ok (.bipush 40, 2) := by decide +kernel
theorem d_Model_pairings_55 : decode u_Model_pairings.2.2.1 55 = .ok (.if_icmp .ne 8, 3) := by decide +kernel
theorem d_Model_pairings_58 : decode u_Model_pairings.2.2.1 58 = .ok (.iconst (-1), 1) := by decide +kernel
theorem d_Model_pairings_59 : decode u_Model_pairings.2.2.1 59 = .ok (.istore_n 1, 1) := by decide +kernel
theorem d_Model_pairings_60 : decode u_Model_pairings.2.2.1 60 = .ok (.goto 129, 3) := by decide +kernel
theorem d_Model_pairings_63 : decode u_Model_pairings.2.2.1 63 = .ok (.iload_n 1, 1) := by decide +kernel
theorem d_Model_pairings_64 : decode u_Model_pairings.2.2.1 64 = .ok (.istore_n 3, 1) := by decide +kernel
theorem d_Model_pairings_65 : decode u_Model_pairings.2.2.1 65 = .ok (.iload_n 3, 1) := by decide +kernel
theorem d_Model_pairings_66 : decode u_Model_pairings.2.2.1 66 = .ok (.ifCond .le 27, 3) := by decide +kernel
theorem d_Model_pairings_69 : decode u_Model_pairings.2.2.1 69 = .ok (.aload_n 0, 1) := by decide +kernel
theorem d_Model_pairings_70 : decode u_Model_pairings.2.2.1 70 = .ok (.iload_n 3, 1) := by decide +kernel
theorem d_Model_pairings_71 : decode u_Model_pairings.2.2.1 71 = .ok (.iconst 1, 1) := by decide +kernel
theorem d_Model_pairings_72 : decode u_Model_pairings.2.2.1 72 = .ok (.isub, 1) := by decide +kernel
theorem d_Model_pairings_73 : decode u_Model_pairings.2.2.1 73 = .ok (.invokevirtual 239, 3) := by decide +kernel
theorem d_Model_pairings_76 : decode u_Model_pairings.2.2.1 76 = .ok (.ifCond .eq 17, 3) := by decide +kernel
theorem d_Model_pairings_79 : decode u_Model_pairings.2.2.1 79 = .ok (.aload_n 0, 1) := by decide +kernel
theorem d_Model_pairings_80 : decode u_Model_pairings.2.2.1 80 = .ok (.iload_n 3, 1) := by decide +kernel
theorem d_Model_pairings_81 : decode u_Model_pairings.2.2.1 81 = .ok (.iconst 1, 1) := by decide +kernel
theorem d_Model_pairings_82 : decode u_Model_pairings.2.2.1 82 = .ok (.isub, 1) := by decide +kernel
theorem d_Model_pairings_83 : decode u_Model_pairings.2.2.1 83 = .ok (.iload_n 3, 1) := by decide +kernel
theorem d_Model_pairings_84 : decode u_Model_pairings.2.2.1 84 = .ok (.invokevirtual 242, 3) := by decide +kernel
theorem d_Model_pairings_87 : decode u_Model_pairings.2.2.1 87 = .ok (.iinc 3 (-1), 3) := by decide +kernel
theorem d_Model_pairings_90 : decode u_Model_pairings.2.2.1 90 = .ok (.goto (-25), 3) := by decide +kernel
theorem d_Model_pairings_93 : decode u_Model_pairings.2.2.1 93 = .ok (.iconst 0, 1) := by decide +kernel
theorem d_Model_pairings_94 : decode u_Model_pairings.2.2.1 94 = .ok (.istore 4, 2) := by decide +kernel
theorem d_Model_pairings_96 : decode u_Model_pairings.2.2.1 96 = .ok (.iload 4, 2) := by decide +kernel
theorem d_Model_pairings_98 : decode u_Model_pairings.2.2.1 98 = .ok (.aload_n 0, 1) := by decide +kernel
theorem d_Model_pairings_99 : decode u_Model_pairings.2.2.1 99 = .ok (.getfield 203, 3) := by decide +kernel
theorem d_Model_pairings_102 : decode u_Model_pairings.2.2.1 102 = .ok (.if_icmp .ge 28, 3) := by decide +kernel
theorem d_Model_pairings_105 : decode u_Model_pairings.2.2.1 105 = .ok (.aload_n 0, 1) := by decide +kernel
theorem d_Model_pairings_106 : decode u_Model_pairings.2.2.1 106 = .ok (.getfield 106, 3) := by decide +kernel
theorem d_Model_pairings_109 : decode u_Model_pairings.2.2.1 109 = .ok (.bipush 8, 2) := by decide +kernel
theorem d_Model_pairings_111 : decode u_Model_pairings.2.2.1 111 = .ok (.iload_n 3, 1) := by decide +kernel
theorem d_Model_pairings_112 : decode u_Model_pairings.2.2.1 112 = .ok (.imul, 1) := by decide +kernel
theorem d_Model_pairings_113 : decode u_Model_pairings.2.2.1 113 = .ok (.iload 4, 2) := by decide +kernel
theorem d_Model_pairings_115 : decode u_Model_pairings.2.2.1 115 = .ok (.iadd, 1) := by decide +kernel
theorem d_Model_pairings_116 : decode u_Model_pairings.2.2.1 116 = .ok (.aload_n 0, 1) := by decide +kernel
theorem d_Model_pairings_117 : decode u_Model_pairings.2.2.1 117 = .ok (.getfield 87, 3) := by decide +kernel
theorem d_Model_pairings_120 : decode u_Model_pairings.2.2.1 120 = .ok (.iload 4, 2) := by decide +kernel
theorem d_Model_pairings_122 : decode u_Model_pairings.2.2.1 122 = .ok (.iaload, 1) := by decide +kernel
theorem d_Model_pairings_123 : decode u_Model_pairings.2.2.1 123 = .ok (.iastore, 1) := by decide +kernel
theorem d_Model_pairings_124 : decode u_Model_pairings.2.2.1 124 = .ok (.iinc 4 1, 3) := by decide +kernel
theorem d_Model_pairings_127 : decode u_Model_pairings.2.2.1 127 = .ok (.goto (-31), 3) := by decide +kernel
theorem d_Model_pairings_130 : decode u_Model_pairings.2.2.1 130 = .ok (.aload_n 0, 1) := by decide +kernel
theorem d_Model_pairings_131 : decode u_Model_pairings.2.2.1 131 = .ok (.getfield 109, 3) := by decide +kernel
theorem d_Model_pairings_134 : decode u_Model_pairings.2.2.1 134 = .ok (.iload_n 3, 1) := by decide +kernel
theorem d_Model_pairings_135 : decode u_Model_pairings.2.2.1 135 = .ok (.aload_n 0, 1) := by decide +kernel
theorem d_Model_pairings_136 : decode u_Model_pairings.2.2.1 136 = .ok (.getfield 203, 3) := by decide +kernel
theorem d_Model_pairings_139 : decode u_Model_pairings.2.2.1 139 = .ok (.iastore, 1) := by decide +kernel
theorem d_Model_pairings_140 : decode u_Model_pairings.2.2.1 140 = .ok (.aload_n 0, 1) := by decide +kernel
theorem d_Model_pairings_141 : decode u_Model_pairings.2.2.1 141 = .ok (.getfield 112, 3) := by decide +kernel
theorem d_Model_pairings_144 : decode u_Model_pairings.2.2.1 144 = .ok (.iload_n 3, 1) := by decide +kernel
theorem d_Model_pairings_145 : decode u_Model_pairings.2.2.1 145 = .ok (.aload_n 0, 1) := by decide +kernel
theorem d_Model_pairings_146 : decode u_Model_pairings.2.2.1 146 = .ok (.getfield 96, 3) := by decide +kernel
theorem d_Model_pairings_149 : decode u_Model_pairings.2.2.1 149 = .ok (.iconst 0, 1) := by decide +kernel
theorem d_Model_pairings_150 : decode u_Model_pairings.2.2.1 150 = .ok (.iaload, 1) := by decide +kernel
theorem d_Model_pairings_151 : decode u_Model_pairings.2.2.1 151 = .ok (.iastore, 1) := by decide +kernel
theorem d_Model_pairings_152 : decode u_Model_pairings.2.2.1 152 = .ok (.aload_n 0, 1) := by decide +kernel
theorem d_Model_pairings_153 : decode u_Model_pairings.2.2.1 153 = .ok (.getfield 115, 3) := by decide +kernel
theorem d_Model_pairings_156 : decode u_Model_pairings.2.2.1 156 = .ok (.iload_n 3, 1) := by decide +kernel
theorem d_Model_pairings_157 : decode u_Model_pairings.2.2.1 157 = .ok (.aload_n 0, 1) := by decide +kernel
theorem d_Model_pairings_158 : decode u_Model_pairings.2.2.1 158 = .ok (.getfield 99, 3) := by decide +kernel
theorem d_Model_pairings_161 : decode u_Model_pairings.2.2.1 161 = .ok (.aload_n 0, 1) := by decide +kernel
theorem d_Model_pairings_162 : decode u_Model_pairings.2.2.1 162 = .ok (.getfield 200, 3) := by decide +kernel
theorem d_Model_pairings_165 : decode u_Model_pairings.2.2.1 165 = .ok (.iconst 1, 1) := by decide +kernel
theorem d_Model_pairings_166 : decode u_Model_pairings.2.2.1 166 = .ok (.isub, 1) := by decide +kernel
theorem d_Model_pairings_167 : decode u_Model_pairings.2.2.1 167 = .ok (.iaload, 1) := by decide +kernel
theorem d_Model_pairings_168 : decode u_Model_pairings.2.2.1 168 = .ok (.iastore, 1) := by decide +kernel
theorem d_Model_pairings_169 : decode u_Model_pairings.2.2.1 169 = .ok (.aload_n 0, 1) := by decide +kernel
theorem d_Model_pairings_170 : decode u_Model_pairings.2.2.1 170 = .ok (.getfield 118, 3) := by decide +kernel
theorem d_Model_pairings_173 : decode u_Model_pairings.2.2.1 173 = .ok (.iload_n 3, 1) := by decide +kernel
theorem d_Model_pairings_174 : decode u_Model_pairings.2.2.1 174 = .ok (.aload_n 0, 1) := by decide +kernel
theorem d_Model_pairings_175 : decode u_Model_pairings.2.2.1 175 = .ok (.invokevirtual 219, 3) := by decide +kernel
theorem d_Model_pairings_178 : decode u_Model_pairings.2.2.1 178 = .ok (.iastore, 1) := by decide +kernel
theorem d_Model_pairings_179 : decode u_Model_pairings.2.2.1 179 = .ok (.aload_n 0, 1) := by decide +kernel
theorem d_Model_pairings_180 : decode u_Model_pairings.2.2.1 180 = .ok (.getfield 121, 3) := by decide +kernel
theorem d_Model_pairings_183 : decode u_Model_pairings.2.2.1 183 = .ok (.iload_n 3, 1) := by decide +kernel
theorem d_Model_pairings_184 : decode u_Model_pairings.2.2.1 184 = .ok (.iload_n 2, 1) := by decide +kernel
theorem d_Model_pairings_185 : decode u_Model_pairings.2.2.1 185 = .ok (.iastore, 1) := by decide +kernel
theorem d_Model_pairings_186 : decode u_Model_pairings.2.2.1 186 = .ok (.iinc 1 1, 3) := by decide +kernel
theorem d_Model_pairings_189 : decode u_Model_pairings.2.2.1 189 = .ok (.iinc 2 1, 3) := by decide +kernel
theorem d_Model_pairings_192 : decode u_Model_pairings.2.2.1 192 = .ok (.goto (-179), 3) := by decide +kernel
theorem d_Model_pairings_195 : decode u_Model_pairings.2.2.1 195 = .ok (.aload_n 0, 1) := by decide +kernel
theorem d_Model_pairings_196 : decode u_Model_pairings.2.2.1 196 = .ok (.iload_n 1, 1) := by decide +kernel
theorem d_Model_pairings_197 : decode u_Model_pairings.2.2.1 197 = .ok (.putfield 102, 3) := by decide +kernel
theorem d_Model_pairings_200 : decode u_Model_pairings.2.2.1 200 = .ok (.aload_n 0, 1) := by decide +kernel
theorem d_Model_pairings_201 : decode u_Model_pairings.2.2.1 201 = .ok (.getfield 102, 3) := by decide +kernel
theorem d_Model_pairings_204 : decode u_Model_pairings.2.2.1 204 = .ok (.ireturn, 1) := by decide +kernel
theorem w_Model_pairings : am_code y_Model_pairings u_Model_pairings ∈ am_ws := am_mem (List.mem_of_getElem? (i := 1292) (by decide +kernel)) rfl
def a_Model_pairings_0 (rc : Nat → Nat → Int32 → Int32 → Int32 → Int32 → am_M → Option (Int32 × am_M)) (r0 : Nat) (x1 : Int32) (x2 : Int32) (x3 : Int32) (x4 : Int32) (M : am_M) : Option (Int32 × am_M) := if (4096 : Int32) ≤ x2 then (rc 5 r0 x1 0 0 0 M) else (if x1 < 0 then (rc 5 r0 x1 0 0 0 M) else ((f_Model_many M x2).bind (fun t25 => if (8 : Int32) < t25 then (rc 4 r0 x1 x2 0 0 M) else ((q_ob M r0 10).bind (fun o35 => (f_Model_lays M r0 x2).bind (fun p35 => if p35.1 = 0 then (rc 4 r0 x1 x2 0 0 p35.2) else ((q_ob p35.2 r0 10).bind (fun o43 => (f_Model_judge p35.2 r0 (-1 : Int32)).bind (fun p43 => if p43.1 ≤ 0 then (if x1 = (40 : Int32) then (rc 4 r0 (-1 : Int32) x2 0 0 p43.2) else (rc 1 r0 x1 x2 x1 0 p43.2)) else (rc 4 r0 x1 x2 0 0 p43.2))))))))))
def a_Model_pairings_1 (rc : Nat → Nat → Int32 → Int32 → Int32 → Int32 → am_M → Option (Int32 × am_M)) (r0 : Nat) (x1 : Int32) (x2 : Int32) (x3 : Int32) (x4 : Int32) (M : am_M) : Option (Int32 × am_M) := if x3 ≤ 0 then (rc 2 r0 x1 x2 x3 0 M) else ((q_ob M r0 10).bind (fun o73 => (f_Model_isBefore M r0 (x3 - (1 : Int32))).bind (fun t73 => if t73 = 0 then (rc 2 r0 x1 x2 x3 0 M) else ((q_ob M r0 10).bind (fun o84 => (f_Model_copies M r0 (x3 - (1 : Int32)) x3).bind (fun p84 => rc 1 r0 x1 x2 (x3 + (-1 : Int32)) 0 p84.2))))))
def a_Model_pairings_2 (rc : Nat → Nat → Int32 → Int32 → Int32 → Int32 → am_M → Option (Int32 × am_M)) (r0 : Nat) (x1 : Int32) (x2 : Int32) (x3 : Int32) (x4 : Int32) (M : am_M) : Option (Int32 × am_M) := rc 3 r0 x1 x2 x3 (0 : Int32) M
def a_Model_pairings_3 (rc : Nat → Nat → Int32 → Int32 → Int32 → Int32 → am_M → Option (Int32 × am_M)) (r0 : Nat) (x1 : Int32) (x2 : Int32) (x3 : Int32) (x4 : Int32) (M : am_M) : Option (Int32 × am_M) := (q_gti M r0 10 28).bind (fun t99 => if t99 ≤ x4 then ((q_gtr M r0 10 36).bind (fun t131 => (q_gti M r0 10 28).bind (fun t136 => (q_sti M t131 x3 t136).bind (fun M139 => (q_gtr M139 r0 10 37).bind (fun t141 => (q_gtr M139 r0 10 32).bind (fun t146 => (q_ldi M139 t146 (0 : Int32)).bind (fun t150 => (q_sti M139 t141 x3 t150).bind (fun M151 => (q_gtr M151 r0 10 38).bind (fun t153 => (q_gtr M151 r0 10 33).bind (fun t158 => (q_gti M151 r0 10 29).bind (fun t162 => (q_ldi M151 t158 (t162 - (1 : Int32))).bind (fun t167 => (q_sti M151 t153 x3 t167).bind (fun M168 => (q_gtr M168 r0 10 39).bind (fun t170 => (q_ob M168 r0 10).bind (fun o175 => (f_Model_flying M168 r0).bind (fun t175 => (q_sti M168 t170 x3 t175).bind (fun M178 => (q_gtr M178 r0 10 40).bind (fun t180 => (q_sti M178 t180 x3 x2).bind (fun M185 => rc 4 r0 (x1 + (1 : Int32)) x2 0 0 M185))))))))))))))))))) else ((q_gtr M r0 10 35).bind (fun t106 => (q_gtr M r0 10 27).bind (fun t117 => (q_ldi M t117 x4).bind (fun t122 => (q_sti M t106 (((8 : Int32) * x3) + x4) t122).bind (fun M123 => rc 3 r0 x1 x2 x3 (x4 + (1 : Int32)) M123))))))
def a_Model_pairings_4 (rc : Nat → Nat → Int32 → Int32 → Int32 → Int32 → am_M → Option (Int32 × am_M)) (r0 : Nat) (x1 : Int32) (x2 : Int32) (x3 : Int32) (x4 : Int32) (M : am_M) : Option (Int32 × am_M) := rc 0 r0 x1 (x2 + (1 : Int32)) 0 0 M
def a_Model_pairings_5 (rc : Nat → Nat → Int32 → Int32 → Int32 → Int32 → am_M → Option (Int32 × am_M)) (r0 : Nat) (x1 : Int32) (x2 : Int32) (x3 : Int32) (x4 : Int32) (M : am_M) : Option (Int32 × am_M) := (q_pti M r0 10 34 x1).bind (fun M197 => (q_gti M197 r0 10 34).bind (fun t201 => some (t201, M197)))
def g_Model_pairings : Nat → Nat → Nat → Int32 → Int32 → Int32 → Int32 → am_M → Option (Int32 × am_M)
  | 0, _, _, _, _, _, _, _ => none
  | F + 1, 0, r0, x1, x2, x3, x4, M => a_Model_pairings_0 (g_Model_pairings F) r0 x1 x2 x3 x4 M
  | F + 1, 1, r0, x1, x2, x3, x4, M => a_Model_pairings_1 (g_Model_pairings F) r0 x1 x2 x3 x4 M
  | F + 1, 2, r0, x1, x2, x3, x4, M => a_Model_pairings_2 (g_Model_pairings F) r0 x1 x2 x3 x4 M
  | F + 1, 3, r0, x1, x2, x3, x4, M => a_Model_pairings_3 (g_Model_pairings F) r0 x1 x2 x3 x4 M
  | F + 1, 4, r0, x1, x2, x3, x4, M => a_Model_pairings_4 (g_Model_pairings F) r0 x1 x2 x3 x4 M
  | F + 1, 5, r0, x1, x2, x3, x4, M => a_Model_pairings_5 (g_Model_pairings F) r0 x1 x2 x3 x4 M
  | _ + 1, _ + 6, _, _, _, _, _, _ => none
def e_Model_pairings (rc : Nat → Nat → Int32 → Int32 → Int32 → Int32 → am_M → Option (Int32 × am_M)) (M : am_M) (a0 : Nat) : Option (Int32 × am_M) := (q_pti M a0 10 0 (0 : Int32)).bind (fun M2 => (q_ob M2 a0 10).bind (fun o6 => (f_Model_loses M2 a0).bind (fun p6 => rc 0 a0 (0 : Int32) (1 : Int32) 0 0 p6.2)))
def f_Model_pairings (M : am_M) (a0 : Nat) : Option (Int32 × am_M) := e_Model_pairings (g_Model_pairings 1000000000) M a0
theorem kV_Model_235 : am_kV "CrewOfficeModel" 235 10 y_Model_lays u_Model_lays 1 := ⟨List.mem_of_getElem? (i := 1296) (by decide +kernel), ⟨List.mem_of_getElem? (i := 1298) (by decide +kernel), List.mem_of_getElem? (i := 42) (by decide +kernel)⟩, List.mem_of_getElem? (i := 65) (by decide +kernel), w_Model_lays, ⟨⟨by decide +kernel, by decide +kernel⟩, by decide +kernel⟩⟩
theorem kV_Model_239 : am_kV "CrewOfficeModel" 239 10 y_Model_isBefore u_Model_isBefore 1 := ⟨List.mem_of_getElem? (i := 1300) (by decide +kernel), ⟨List.mem_of_getElem? (i := 1302) (by decide +kernel), List.mem_of_getElem? (i := 43) (by decide +kernel)⟩, List.mem_of_getElem? (i := 65) (by decide +kernel), w_Model_isBefore, ⟨⟨by decide +kernel, by decide +kernel⟩, by decide +kernel⟩⟩
theorem kV_Model_242 : am_kV "CrewOfficeModel" 242 10 y_Model_copies u_Model_copies 2 := ⟨List.mem_of_getElem? (i := 1304) (by decide +kernel), ⟨List.mem_of_getElem? (i := 1306) (by decide +kernel), List.mem_of_getElem? (i := 44) (by decide +kernel)⟩, List.mem_of_getElem? (i := 65) (by decide +kernel), w_Model_copies, ⟨⟨by decide +kernel, by decide +kernel⟩, by decide +kernel⟩⟩
set_option maxHeartbeats 4000000 in
theorem s_Model_pairings_0 {rc : Nat → Nat → Int32 → Int32 → Int32 → Int32 → am_M → Option (Int32 × am_M)} {res : Int32} {M' : am_M} (ih_0 : ∀ (r0 : Nat) (x1 : Int32) (x2 : Int32) (x3 : Int32) (x4 : Int32) (M : am_M), rc 0 r0 x1 x2 x3 x4 M = some (res, M') → AW u_Model_pairings R_Model_pairings 0 0 13 [(0, .ref r0), (1, .int x1), (2, .int x2)] [] M (fun r M2 => r = .inl (some (.int res)) ∧ M2 = M')) (ih_1 : ∀ (r0 : Nat) (x1 : Int32) (x2 : Int32) (x3 : Int32) (x4 : Int32) (M : am_M), rc 1 r0 x1 x2 x3 x4 M = some (res, M') → AW u_Model_pairings R_Model_pairings 0 0 65 [(0, .ref r0), (1, .int x1), (2, .int x2), (3, .int x3)] [] M (fun r M2 => r = .inl (some (.int res)) ∧ M2 = M')) (ih_2 : ∀ (r0 : Nat) (x1 : Int32) (x2 : Int32) (x3 : Int32) (x4 : Int32) (M : am_M), rc 2 r0 x1 x2 x3 x4 M = some (res, M') → AW u_Model_pairings R_Model_pairings 0 0 93 [(0, .ref r0), (1, .int x1), (2, .int x2), (3, .int x3)] [] M (fun r M2 => r = .inl (some (.int res)) ∧ M2 = M')) (ih_3 : ∀ (r0 : Nat) (x1 : Int32) (x2 : Int32) (x3 : Int32) (x4 : Int32) (M : am_M), rc 3 r0 x1 x2 x3 x4 M = some (res, M') → AW u_Model_pairings R_Model_pairings 0 0 96 [(0, .ref r0), (1, .int x1), (2, .int x2), (3, .int x3), (4, .int x4)] [] M (fun r M2 => r = .inl (some (.int res)) ∧ M2 = M')) (ih_4 : ∀ (r0 : Nat) (x1 : Int32) (x2 : Int32) (x3 : Int32) (x4 : Int32) (M : am_M), rc 4 r0 x1 x2 x3 x4 M = some (res, M') → AW u_Model_pairings R_Model_pairings 0 0 189 [(0, .ref r0), (1, .int x1), (2, .int x2)] [] M (fun r M2 => r = .inl (some (.int res)) ∧ M2 = M')) (ih_5 : ∀ (r0 : Nat) (x1 : Int32) (x2 : Int32) (x3 : Int32) (x4 : Int32) (M : am_M), rc 5 r0 x1 x2 x3 x4 M = some (res, M') → AW u_Model_pairings R_Model_pairings 0 0 195 [(0, .ref r0), (1, .int x1)] [] M (fun r M2 => r = .inl (some (.int res)) ∧ M2 = M')) : ∀ (r0 : Nat) (x1 : Int32) (x2 : Int32) (x3 : Int32) (x4 : Int32) (M : am_M), a_Model_pairings_0 rc r0 x1 x2 x3 x4 M = some (res, M') → AW u_Model_pairings R_Model_pairings 0 0 13 [(0, .ref r0), (1, .int x1), (2, .int x2)] [] M (fun r M2 => r = .inl (some (.int res)) ∧ M2 = M') := by
  intro r0 x1 x2 x3 x4 M h
  unfold a_Model_pairings_0 at h
  refine aw_iload_n d_Model_pairings_13 rfl rfl ?_
  refine aw_sipush (v := 4096) d_Model_pairings_14 (by decide) ?_
  refine aw_icmp_ge (tgt := 195) d_Model_pairings_17 (by decide) (fun hc => ?_) (fun hc => ?_)
  · rw [if_pos hc] at h
    exact aw_pick [0, 1] rfl (ih_5 _ _ _ _ _ _ h)
  · rw [if_neg hc] at h
    refine aw_iload_n d_Model_pairings_20 rfl rfl ?_
    refine aw_if_lt (tgt := 195) d_Model_pairings_21 (by decide) (fun hc => ?_) (fun hc => ?_)
    · rw [if_pos hc] at h
      exact aw_pick [0, 1] rfl (ih_5 _ _ _ _ _ _ h)
    · rw [if_neg hc] at h
      refine aw_iload_n d_Model_pairings_24 rfl rfl ?_
      obtain ⟨t25, e_t25, h⟩ := q_bind h
      refine aw_cS (v := (some (.int t25))) (As := [.int x2]) (rest := []) (st' := [.int t25]) d_Model_pairings_25 kS_Model_232 ⟨Nat.le_of_ble_eq_true rfl, Nat.le_of_ble_eq_true rfl, Nat.le_of_ble_eq_true rfl, Nat.le_of_ble_eq_true rfl⟩ rfl rfl (Nat.le_of_ble_eq_true rfl) rfl (mt_Model_many e_t25) ?_
      refine aw_bipush (v := 8) d_Model_pairings_28 (by decide) ?_
      refine aw_icmp_gt (tgt := 189) d_Model_pairings_30 (by decide) (fun hc => ?_) (fun hc => ?_)
      · rw [if_pos hc] at h
        exact aw_pick [0, 1, 2] rfl (ih_4 _ _ _ _ _ _ h)
      · rw [if_neg hc] at h
        refine aw_aload_n d_Model_pairings_33 rfl rfl ?_
        refine aw_iload_n d_Model_pairings_34 rfl rfl ?_
        obtain ⟨o35, e_o35, h⟩ := q_bind h
        obtain ⟨⟨t35, M35⟩, e_t35, h⟩ := q_bind h
        dsimp only at h
        refine aw_cV (v := (some (.int t35))) (As := [.int x2]) (rest := []) (st' := [.int t35]) d_Model_pairings_35 kV_Model_235 (q_ob_spec e_o35).1 (q_ob_spec e_o35).2 ⟨Nat.le_of_ble_eq_true rfl, Nat.le_of_ble_eq_true rfl, Nat.le_of_ble_eq_true rfl, Nat.le_of_ble_eq_true rfl⟩ rfl rfl (Nat.le_of_ble_eq_true rfl) rfl (mt_Model_lays e_t35) ?_
        refine aw_if_eq (tgt := 189) d_Model_pairings_38 (by decide) (fun hc => ?_) (fun hc => ?_)
        · rw [if_pos hc] at h
          exact aw_pick [0, 1, 2] rfl (ih_4 _ _ _ _ _ _ h)
        · rw [if_neg hc] at h
          refine aw_aload_n d_Model_pairings_41 rfl rfl ?_
          refine aw_iconst (v := -1) d_Model_pairings_42 (by decide) ?_
          obtain ⟨o43, e_o43, h⟩ := q_bind h
          obtain ⟨⟨t43, M43⟩, e_t43, h⟩ := q_bind h
          dsimp only at h
          refine aw_cV (v := (some (.int t43))) (As := [.int (-1 : Int32)]) (rest := []) (st' := [.int t43]) d_Model_pairings_43 kV_Model_229 (q_ob_spec e_o43).1 (q_ob_spec e_o43).2 ⟨Nat.le_of_ble_eq_true rfl, Nat.le_of_ble_eq_true rfl, Nat.le_of_ble_eq_true rfl, Nat.le_of_ble_eq_true rfl⟩ rfl rfl (Nat.le_of_ble_eq_true rfl) rfl (mt_Model_judge e_t43) ?_
          refine aw_if_le (tgt := 52) d_Model_pairings_46 (by decide) (fun hc => ?_) (fun hc => ?_)
          · rw [if_pos hc] at h
            refine aw_iload_n d_Model_pairings_52 rfl rfl ?_
            refine aw_bipush (v := 40) d_Model_pairings_53 (by decide) ?_
            refine aw_icmp_ne (tgt := 63) d_Model_pairings_55 (by decide) (fun hc => ?_) (fun hc => ?_)
            · rw [if_neg hc] at h
              refine aw_iload_n d_Model_pairings_63 rfl rfl ?_
              refine aw_istore_n (ls' := [(3, .int _), (0, .ref _), (1, .int _), (2, .int _)]) d_Model_pairings_64 rfl (Nat.le_of_ble_eq_true rfl) rfl ?_
              exact aw_pick [1, 2, 3, 0] rfl (ih_1 _ _ _ _ _ _ h)
            · rw [if_pos hc] at h
              refine aw_iconst (v := -1) d_Model_pairings_58 (by decide) ?_
              refine aw_istore_n (ls' := [(1, .int _), (0, .ref _), (2, .int _)]) d_Model_pairings_59 rfl (Nat.le_of_ble_eq_true rfl) rfl ?_
              refine aw_goto (tgt := 189) d_Model_pairings_60 (by decide) ?_
              exact aw_pick [1, 0, 2] rfl (ih_4 _ _ _ _ _ _ h)
          · rw [if_neg hc] at h
            refine aw_goto (tgt := 189) d_Model_pairings_49 (by decide) ?_
            exact aw_pick [0, 1, 2] rfl (ih_4 _ _ _ _ _ _ h)
set_option maxHeartbeats 4000000 in
theorem s_Model_pairings_1 {rc : Nat → Nat → Int32 → Int32 → Int32 → Int32 → am_M → Option (Int32 × am_M)} {res : Int32} {M' : am_M} (ih_0 : ∀ (r0 : Nat) (x1 : Int32) (x2 : Int32) (x3 : Int32) (x4 : Int32) (M : am_M), rc 0 r0 x1 x2 x3 x4 M = some (res, M') → AW u_Model_pairings R_Model_pairings 0 0 13 [(0, .ref r0), (1, .int x1), (2, .int x2)] [] M (fun r M2 => r = .inl (some (.int res)) ∧ M2 = M')) (ih_1 : ∀ (r0 : Nat) (x1 : Int32) (x2 : Int32) (x3 : Int32) (x4 : Int32) (M : am_M), rc 1 r0 x1 x2 x3 x4 M = some (res, M') → AW u_Model_pairings R_Model_pairings 0 0 65 [(0, .ref r0), (1, .int x1), (2, .int x2), (3, .int x3)] [] M (fun r M2 => r = .inl (some (.int res)) ∧ M2 = M')) (ih_2 : ∀ (r0 : Nat) (x1 : Int32) (x2 : Int32) (x3 : Int32) (x4 : Int32) (M : am_M), rc 2 r0 x1 x2 x3 x4 M = some (res, M') → AW u_Model_pairings R_Model_pairings 0 0 93 [(0, .ref r0), (1, .int x1), (2, .int x2), (3, .int x3)] [] M (fun r M2 => r = .inl (some (.int res)) ∧ M2 = M')) (ih_3 : ∀ (r0 : Nat) (x1 : Int32) (x2 : Int32) (x3 : Int32) (x4 : Int32) (M : am_M), rc 3 r0 x1 x2 x3 x4 M = some (res, M') → AW u_Model_pairings R_Model_pairings 0 0 96 [(0, .ref r0), (1, .int x1), (2, .int x2), (3, .int x3), (4, .int x4)] [] M (fun r M2 => r = .inl (some (.int res)) ∧ M2 = M')) (ih_4 : ∀ (r0 : Nat) (x1 : Int32) (x2 : Int32) (x3 : Int32) (x4 : Int32) (M : am_M), rc 4 r0 x1 x2 x3 x4 M = some (res, M') → AW u_Model_pairings R_Model_pairings 0 0 189 [(0, .ref r0), (1, .int x1), (2, .int x2)] [] M (fun r M2 => r = .inl (some (.int res)) ∧ M2 = M')) (ih_5 : ∀ (r0 : Nat) (x1 : Int32) (x2 : Int32) (x3 : Int32) (x4 : Int32) (M : am_M), rc 5 r0 x1 x2 x3 x4 M = some (res, M') → AW u_Model_pairings R_Model_pairings 0 0 195 [(0, .ref r0), (1, .int x1)] [] M (fun r M2 => r = .inl (some (.int res)) ∧ M2 = M')) : ∀ (r0 : Nat) (x1 : Int32) (x2 : Int32) (x3 : Int32) (x4 : Int32) (M : am_M), a_Model_pairings_1 rc r0 x1 x2 x3 x4 M = some (res, M') → AW u_Model_pairings R_Model_pairings 0 0 65 [(0, .ref r0), (1, .int x1), (2, .int x2), (3, .int x3)] [] M (fun r M2 => r = .inl (some (.int res)) ∧ M2 = M') := by
  intro r0 x1 x2 x3 x4 M h
  unfold a_Model_pairings_1 at h
  refine aw_iload_n d_Model_pairings_65 rfl rfl ?_
  refine aw_if_le (tgt := 93) d_Model_pairings_66 (by decide) (fun hc => ?_) (fun hc => ?_)
  · rw [if_pos hc] at h
    exact aw_pick [0, 1, 2, 3] rfl (ih_2 _ _ _ _ _ _ h)
  · rw [if_neg hc] at h
    refine aw_aload_n d_Model_pairings_69 rfl rfl ?_
    refine aw_iload_n d_Model_pairings_70 rfl rfl ?_
    refine aw_iconst (v := 1) d_Model_pairings_71 (by decide) ?_
    refine aw_isub d_Model_pairings_72 ?_
    obtain ⟨o73, e_o73, h⟩ := q_bind h
    obtain ⟨t73, e_t73, h⟩ := q_bind h
    refine aw_cV (v := (some (.int t73))) (As := [.int (x3 - (1 : Int32))]) (rest := []) (st' := [.int t73]) d_Model_pairings_73 kV_Model_239 (q_ob_spec e_o73).1 (q_ob_spec e_o73).2 ⟨Nat.le_of_ble_eq_true rfl, Nat.le_of_ble_eq_true rfl, Nat.le_of_ble_eq_true rfl, Nat.le_of_ble_eq_true rfl⟩ rfl rfl (Nat.le_of_ble_eq_true rfl) rfl (mt_Model_isBefore e_t73) ?_
    refine aw_if_eq (tgt := 93) d_Model_pairings_76 (by decide) (fun hc => ?_) (fun hc => ?_)
    · rw [if_pos hc] at h
      exact aw_pick [0, 1, 2, 3] rfl (ih_2 _ _ _ _ _ _ h)
    · rw [if_neg hc] at h
      refine aw_aload_n d_Model_pairings_79 rfl rfl ?_
      refine aw_iload_n d_Model_pairings_80 rfl rfl ?_
      refine aw_iconst (v := 1) d_Model_pairings_81 (by decide) ?_
      refine aw_isub d_Model_pairings_82 ?_
      refine aw_iload_n d_Model_pairings_83 rfl rfl ?_
      obtain ⟨o84, e_o84, h⟩ := q_bind h
      obtain ⟨⟨t84, M84⟩, e_t84, h⟩ := q_bind h
      dsimp only at h
      refine aw_cV (v := none) (As := [.int (x3 - (1 : Int32)), .int x3]) (rest := []) (st' := []) d_Model_pairings_84 kV_Model_242 (q_ob_spec e_o84).1 (q_ob_spec e_o84).2 ⟨Nat.le_of_ble_eq_true rfl, Nat.le_of_ble_eq_true rfl, Nat.le_of_ble_eq_true rfl, Nat.le_of_ble_eq_true rfl⟩ rfl rfl (Nat.le_of_ble_eq_true rfl) rfl (mt_Model_copies e_t84) ?_
      refine aw_iinc (v := (x3 + (-1 : Int32))) (ls' := [(3, .int _), (0, .ref _), (1, .int _), (2, .int _)]) d_Model_pairings_87 rfl rfl (Nat.le_of_ble_eq_true rfl) rfl ?_
      refine aw_goto (tgt := 65) d_Model_pairings_90 (by decide) ?_
      exact aw_pick [1, 2, 3, 0] rfl (ih_1 _ _ _ _ _ _ h)
set_option maxHeartbeats 4000000 in
theorem s_Model_pairings_2 {rc : Nat → Nat → Int32 → Int32 → Int32 → Int32 → am_M → Option (Int32 × am_M)} {res : Int32} {M' : am_M} (ih_0 : ∀ (r0 : Nat) (x1 : Int32) (x2 : Int32) (x3 : Int32) (x4 : Int32) (M : am_M), rc 0 r0 x1 x2 x3 x4 M = some (res, M') → AW u_Model_pairings R_Model_pairings 0 0 13 [(0, .ref r0), (1, .int x1), (2, .int x2)] [] M (fun r M2 => r = .inl (some (.int res)) ∧ M2 = M')) (ih_1 : ∀ (r0 : Nat) (x1 : Int32) (x2 : Int32) (x3 : Int32) (x4 : Int32) (M : am_M), rc 1 r0 x1 x2 x3 x4 M = some (res, M') → AW u_Model_pairings R_Model_pairings 0 0 65 [(0, .ref r0), (1, .int x1), (2, .int x2), (3, .int x3)] [] M (fun r M2 => r = .inl (some (.int res)) ∧ M2 = M')) (ih_2 : ∀ (r0 : Nat) (x1 : Int32) (x2 : Int32) (x3 : Int32) (x4 : Int32) (M : am_M), rc 2 r0 x1 x2 x3 x4 M = some (res, M') → AW u_Model_pairings R_Model_pairings 0 0 93 [(0, .ref r0), (1, .int x1), (2, .int x2), (3, .int x3)] [] M (fun r M2 => r = .inl (some (.int res)) ∧ M2 = M')) (ih_3 : ∀ (r0 : Nat) (x1 : Int32) (x2 : Int32) (x3 : Int32) (x4 : Int32) (M : am_M), rc 3 r0 x1 x2 x3 x4 M = some (res, M') → AW u_Model_pairings R_Model_pairings 0 0 96 [(0, .ref r0), (1, .int x1), (2, .int x2), (3, .int x3), (4, .int x4)] [] M (fun r M2 => r = .inl (some (.int res)) ∧ M2 = M')) (ih_4 : ∀ (r0 : Nat) (x1 : Int32) (x2 : Int32) (x3 : Int32) (x4 : Int32) (M : am_M), rc 4 r0 x1 x2 x3 x4 M = some (res, M') → AW u_Model_pairings R_Model_pairings 0 0 189 [(0, .ref r0), (1, .int x1), (2, .int x2)] [] M (fun r M2 => r = .inl (some (.int res)) ∧ M2 = M')) (ih_5 : ∀ (r0 : Nat) (x1 : Int32) (x2 : Int32) (x3 : Int32) (x4 : Int32) (M : am_M), rc 5 r0 x1 x2 x3 x4 M = some (res, M') → AW u_Model_pairings R_Model_pairings 0 0 195 [(0, .ref r0), (1, .int x1)] [] M (fun r M2 => r = .inl (some (.int res)) ∧ M2 = M')) : ∀ (r0 : Nat) (x1 : Int32) (x2 : Int32) (x3 : Int32) (x4 : Int32) (M : am_M), a_Model_pairings_2 rc r0 x1 x2 x3 x4 M = some (res, M') → AW u_Model_pairings R_Model_pairings 0 0 93 [(0, .ref r0), (1, .int x1), (2, .int x2), (3, .int x3)] [] M (fun r M2 => r = .inl (some (.int res)) ∧ M2 = M') := by
  intro r0 x1 x2 x3 x4 M h
  unfold a_Model_pairings_2 at h
  refine aw_iconst (v := 0) d_Model_pairings_93 (by decide) ?_
  refine aw_istore (ls' := [(4, .int _), (0, .ref _), (1, .int _), (2, .int _), (3, .int _)]) d_Model_pairings_94 (Nat.le_of_ble_eq_true rfl) rfl ?_
  exact aw_pick [1, 2, 3, 4, 0] rfl (ih_3 _ _ _ _ _ _ h)
set_option maxHeartbeats 4000000 in
theorem s_Model_pairings_3 {rc : Nat → Nat → Int32 → Int32 → Int32 → Int32 → am_M → Option (Int32 × am_M)} {res : Int32} {M' : am_M} (ih_0 : ∀ (r0 : Nat) (x1 : Int32) (x2 : Int32) (x3 : Int32) (x4 : Int32) (M : am_M), rc 0 r0 x1 x2 x3 x4 M = some (res, M') → AW u_Model_pairings R_Model_pairings 0 0 13 [(0, .ref r0), (1, .int x1), (2, .int x2)] [] M (fun r M2 => r = .inl (some (.int res)) ∧ M2 = M')) (ih_1 : ∀ (r0 : Nat) (x1 : Int32) (x2 : Int32) (x3 : Int32) (x4 : Int32) (M : am_M), rc 1 r0 x1 x2 x3 x4 M = some (res, M') → AW u_Model_pairings R_Model_pairings 0 0 65 [(0, .ref r0), (1, .int x1), (2, .int x2), (3, .int x3)] [] M (fun r M2 => r = .inl (some (.int res)) ∧ M2 = M')) (ih_2 : ∀ (r0 : Nat) (x1 : Int32) (x2 : Int32) (x3 : Int32) (x4 : Int32) (M : am_M), rc 2 r0 x1 x2 x3 x4 M = some (res, M') → AW u_Model_pairings R_Model_pairings 0 0 93 [(0, .ref r0), (1, .int x1), (2, .int x2), (3, .int x3)] [] M (fun r M2 => r = .inl (some (.int res)) ∧ M2 = M')) (ih_3 : ∀ (r0 : Nat) (x1 : Int32) (x2 : Int32) (x3 : Int32) (x4 : Int32) (M : am_M), rc 3 r0 x1 x2 x3 x4 M = some (res, M') → AW u_Model_pairings R_Model_pairings 0 0 96 [(0, .ref r0), (1, .int x1), (2, .int x2), (3, .int x3), (4, .int x4)] [] M (fun r M2 => r = .inl (some (.int res)) ∧ M2 = M')) (ih_4 : ∀ (r0 : Nat) (x1 : Int32) (x2 : Int32) (x3 : Int32) (x4 : Int32) (M : am_M), rc 4 r0 x1 x2 x3 x4 M = some (res, M') → AW u_Model_pairings R_Model_pairings 0 0 189 [(0, .ref r0), (1, .int x1), (2, .int x2)] [] M (fun r M2 => r = .inl (some (.int res)) ∧ M2 = M')) (ih_5 : ∀ (r0 : Nat) (x1 : Int32) (x2 : Int32) (x3 : Int32) (x4 : Int32) (M : am_M), rc 5 r0 x1 x2 x3 x4 M = some (res, M') → AW u_Model_pairings R_Model_pairings 0 0 195 [(0, .ref r0), (1, .int x1)] [] M (fun r M2 => r = .inl (some (.int res)) ∧ M2 = M')) : ∀ (r0 : Nat) (x1 : Int32) (x2 : Int32) (x3 : Int32) (x4 : Int32) (M : am_M), a_Model_pairings_3 rc r0 x1 x2 x3 x4 M = some (res, M') → AW u_Model_pairings R_Model_pairings 0 0 96 [(0, .ref r0), (1, .int x1), (2, .int x2), (3, .int x3), (4, .int x4)] [] M (fun r M2 => r = .inl (some (.int res)) ∧ M2 = M') := by
  intro r0 x1 x2 x3 x4 M h
  unfold a_Model_pairings_3 at h
  refine aw_iload d_Model_pairings_96 rfl ?_
  refine aw_aload_n d_Model_pairings_98 rfl rfl ?_
  obtain ⟨t99, e_t99, h⟩ := q_bind h
  refine aw_gti d_Model_pairings_99 fl_Model_203 (Or.inl rfl) e_t99 ?_
  refine aw_icmp_ge (tgt := 130) d_Model_pairings_102 (by decide) (fun hc => ?_) (fun hc => ?_)
  · rw [if_pos hc] at h
    refine aw_aload_n d_Model_pairings_130 rfl rfl ?_
    obtain ⟨t131, e_t131, h⟩ := q_bind h
    refine aw_gtr d_Model_pairings_131 fl_Model_109 (Or.inr ⟨_, rfl⟩) e_t131 ?_
    refine aw_iload_n d_Model_pairings_134 rfl rfl ?_
    refine aw_aload_n d_Model_pairings_135 rfl rfl ?_
    obtain ⟨t136, e_t136, h⟩ := q_bind h
    refine aw_gti d_Model_pairings_136 fl_Model_203 (Or.inl rfl) e_t136 ?_
    obtain ⟨M139, e_M139, h⟩ := q_bind h
    refine aw_sti d_Model_pairings_139 e_M139 ?_
    refine aw_aload_n d_Model_pairings_140 rfl rfl ?_
    obtain ⟨t141, e_t141, h⟩ := q_bind h
    refine aw_gtr d_Model_pairings_141 fl_Model_112 (Or.inr ⟨_, rfl⟩) e_t141 ?_
    refine aw_iload_n d_Model_pairings_144 rfl rfl ?_
    refine aw_aload_n d_Model_pairings_145 rfl rfl ?_
    obtain ⟨t146, e_t146, h⟩ := q_bind h
    refine aw_gtr d_Model_pairings_146 fl_Model_96 (Or.inr ⟨_, rfl⟩) e_t146 ?_
    refine aw_iconst (v := 0) d_Model_pairings_149 (by decide) ?_
    obtain ⟨t150, e_t150, h⟩ := q_bind h
    refine aw_ldi d_Model_pairings_150 e_t150 ?_
    obtain ⟨M151, e_M151, h⟩ := q_bind h
    refine aw_sti d_Model_pairings_151 e_M151 ?_
    refine aw_aload_n d_Model_pairings_152 rfl rfl ?_
    obtain ⟨t153, e_t153, h⟩ := q_bind h
    refine aw_gtr d_Model_pairings_153 fl_Model_115 (Or.inr ⟨_, rfl⟩) e_t153 ?_
    refine aw_iload_n d_Model_pairings_156 rfl rfl ?_
    refine aw_aload_n d_Model_pairings_157 rfl rfl ?_
    obtain ⟨t158, e_t158, h⟩ := q_bind h
    refine aw_gtr d_Model_pairings_158 fl_Model_99 (Or.inr ⟨_, rfl⟩) e_t158 ?_
    refine aw_aload_n d_Model_pairings_161 rfl rfl ?_
    obtain ⟨t162, e_t162, h⟩ := q_bind h
    refine aw_gti d_Model_pairings_162 fl_Model_200 (Or.inl rfl) e_t162 ?_
    refine aw_iconst (v := 1) d_Model_pairings_165 (by decide) ?_
    refine aw_isub d_Model_pairings_166 ?_
    obtain ⟨t167, e_t167, h⟩ := q_bind h
    refine aw_ldi d_Model_pairings_167 e_t167 ?_
    obtain ⟨M168, e_M168, h⟩ := q_bind h
    refine aw_sti d_Model_pairings_168 e_M168 ?_
    refine aw_aload_n d_Model_pairings_169 rfl rfl ?_
    obtain ⟨t170, e_t170, h⟩ := q_bind h
    refine aw_gtr d_Model_pairings_170 fl_Model_118 (Or.inr ⟨_, rfl⟩) e_t170 ?_
    refine aw_iload_n d_Model_pairings_173 rfl rfl ?_
    refine aw_aload_n d_Model_pairings_174 rfl rfl ?_
    obtain ⟨o175, e_o175, h⟩ := q_bind h
    obtain ⟨t175, e_t175, h⟩ := q_bind h
    refine aw_cV (v := (some (.int t175))) (As := []) (rest := [.int x3, .ref t170]) (st' := [.int t175, .int x3, .ref t170]) d_Model_pairings_175 kV_Model_219 (q_ob_spec e_o175).1 (q_ob_spec e_o175).2 ⟨Nat.le_of_ble_eq_true rfl, Nat.le_of_ble_eq_true rfl, Nat.le_of_ble_eq_true rfl, Nat.le_of_ble_eq_true rfl⟩ rfl rfl (Nat.le_of_ble_eq_true rfl) rfl (mt_Model_flying e_t175) ?_
    obtain ⟨M178, e_M178, h⟩ := q_bind h
    refine aw_sti d_Model_pairings_178 e_M178 ?_
    refine aw_aload_n d_Model_pairings_179 rfl rfl ?_
    obtain ⟨t180, e_t180, h⟩ := q_bind h
    refine aw_gtr d_Model_pairings_180 fl_Model_121 (Or.inr ⟨_, rfl⟩) e_t180 ?_
    refine aw_iload_n d_Model_pairings_183 rfl rfl ?_
    refine aw_iload_n d_Model_pairings_184 rfl rfl ?_
    obtain ⟨M185, e_M185, h⟩ := q_bind h
    refine aw_sti d_Model_pairings_185 e_M185 ?_
    refine aw_iinc (v := (x1 + (1 : Int32))) (ls' := [(1, .int _), (0, .ref _), (2, .int _), (3, .int _), (4, .int _)]) d_Model_pairings_186 rfl rfl (Nat.le_of_ble_eq_true rfl) rfl ?_
    exact aw_pick [1, 0, 2] rfl (ih_4 _ _ _ _ _ _ h)
  · rw [if_neg hc] at h
    refine aw_aload_n d_Model_pairings_105 rfl rfl ?_
    obtain ⟨t106, e_t106, h⟩ := q_bind h
    refine aw_gtr d_Model_pairings_106 fl_Model_106 (Or.inr ⟨_, rfl⟩) e_t106 ?_
    refine aw_bipush (v := 8) d_Model_pairings_109 (by decide) ?_
    refine aw_iload_n d_Model_pairings_111 rfl rfl ?_
    refine aw_imul d_Model_pairings_112 ?_
    refine aw_iload d_Model_pairings_113 rfl ?_
    refine aw_iadd d_Model_pairings_115 ?_
    refine aw_aload_n d_Model_pairings_116 rfl rfl ?_
    obtain ⟨t117, e_t117, h⟩ := q_bind h
    refine aw_gtr d_Model_pairings_117 fl_Model_87 (Or.inr ⟨_, rfl⟩) e_t117 ?_
    refine aw_iload d_Model_pairings_120 rfl ?_
    obtain ⟨t122, e_t122, h⟩ := q_bind h
    refine aw_ldi d_Model_pairings_122 e_t122 ?_
    obtain ⟨M123, e_M123, h⟩ := q_bind h
    refine aw_sti d_Model_pairings_123 e_M123 ?_
    refine aw_iinc (v := (x4 + (1 : Int32))) (ls' := [(4, .int _), (0, .ref _), (1, .int _), (2, .int _), (3, .int _)]) d_Model_pairings_124 rfl rfl (Nat.le_of_ble_eq_true rfl) rfl ?_
    refine aw_goto (tgt := 96) d_Model_pairings_127 (by decide) ?_
    exact aw_pick [1, 2, 3, 4, 0] rfl (ih_3 _ _ _ _ _ _ h)
set_option maxHeartbeats 4000000 in
theorem s_Model_pairings_4 {rc : Nat → Nat → Int32 → Int32 → Int32 → Int32 → am_M → Option (Int32 × am_M)} {res : Int32} {M' : am_M} (ih_0 : ∀ (r0 : Nat) (x1 : Int32) (x2 : Int32) (x3 : Int32) (x4 : Int32) (M : am_M), rc 0 r0 x1 x2 x3 x4 M = some (res, M') → AW u_Model_pairings R_Model_pairings 0 0 13 [(0, .ref r0), (1, .int x1), (2, .int x2)] [] M (fun r M2 => r = .inl (some (.int res)) ∧ M2 = M')) (ih_1 : ∀ (r0 : Nat) (x1 : Int32) (x2 : Int32) (x3 : Int32) (x4 : Int32) (M : am_M), rc 1 r0 x1 x2 x3 x4 M = some (res, M') → AW u_Model_pairings R_Model_pairings 0 0 65 [(0, .ref r0), (1, .int x1), (2, .int x2), (3, .int x3)] [] M (fun r M2 => r = .inl (some (.int res)) ∧ M2 = M')) (ih_2 : ∀ (r0 : Nat) (x1 : Int32) (x2 : Int32) (x3 : Int32) (x4 : Int32) (M : am_M), rc 2 r0 x1 x2 x3 x4 M = some (res, M') → AW u_Model_pairings R_Model_pairings 0 0 93 [(0, .ref r0), (1, .int x1), (2, .int x2), (3, .int x3)] [] M (fun r M2 => r = .inl (some (.int res)) ∧ M2 = M')) (ih_3 : ∀ (r0 : Nat) (x1 : Int32) (x2 : Int32) (x3 : Int32) (x4 : Int32) (M : am_M), rc 3 r0 x1 x2 x3 x4 M = some (res, M') → AW u_Model_pairings R_Model_pairings 0 0 96 [(0, .ref r0), (1, .int x1), (2, .int x2), (3, .int x3), (4, .int x4)] [] M (fun r M2 => r = .inl (some (.int res)) ∧ M2 = M')) (ih_4 : ∀ (r0 : Nat) (x1 : Int32) (x2 : Int32) (x3 : Int32) (x4 : Int32) (M : am_M), rc 4 r0 x1 x2 x3 x4 M = some (res, M') → AW u_Model_pairings R_Model_pairings 0 0 189 [(0, .ref r0), (1, .int x1), (2, .int x2)] [] M (fun r M2 => r = .inl (some (.int res)) ∧ M2 = M')) (ih_5 : ∀ (r0 : Nat) (x1 : Int32) (x2 : Int32) (x3 : Int32) (x4 : Int32) (M : am_M), rc 5 r0 x1 x2 x3 x4 M = some (res, M') → AW u_Model_pairings R_Model_pairings 0 0 195 [(0, .ref r0), (1, .int x1)] [] M (fun r M2 => r = .inl (some (.int res)) ∧ M2 = M')) : ∀ (r0 : Nat) (x1 : Int32) (x2 : Int32) (x3 : Int32) (x4 : Int32) (M : am_M), a_Model_pairings_4 rc r0 x1 x2 x3 x4 M = some (res, M') → AW u_Model_pairings R_Model_pairings 0 0 189 [(0, .ref r0), (1, .int x1), (2, .int x2)] [] M (fun r M2 => r = .inl (some (.int res)) ∧ M2 = M') := by
  intro r0 x1 x2 x3 x4 M h
  unfold a_Model_pairings_4 at h
  refine aw_iinc (v := (x2 + (1 : Int32))) (ls' := [(2, .int _), (0, .ref _), (1, .int _)]) d_Model_pairings_189 rfl rfl (Nat.le_of_ble_eq_true rfl) rfl ?_
  refine aw_goto (tgt := 13) d_Model_pairings_192 (by decide) ?_
  exact aw_pick [1, 2, 0] rfl (ih_0 _ _ _ _ _ _ h)
set_option maxHeartbeats 4000000 in
theorem s_Model_pairings_5 {rc : Nat → Nat → Int32 → Int32 → Int32 → Int32 → am_M → Option (Int32 × am_M)} {res : Int32} {M' : am_M} (ih_0 : ∀ (r0 : Nat) (x1 : Int32) (x2 : Int32) (x3 : Int32) (x4 : Int32) (M : am_M), rc 0 r0 x1 x2 x3 x4 M = some (res, M') → AW u_Model_pairings R_Model_pairings 0 0 13 [(0, .ref r0), (1, .int x1), (2, .int x2)] [] M (fun r M2 => r = .inl (some (.int res)) ∧ M2 = M')) (ih_1 : ∀ (r0 : Nat) (x1 : Int32) (x2 : Int32) (x3 : Int32) (x4 : Int32) (M : am_M), rc 1 r0 x1 x2 x3 x4 M = some (res, M') → AW u_Model_pairings R_Model_pairings 0 0 65 [(0, .ref r0), (1, .int x1), (2, .int x2), (3, .int x3)] [] M (fun r M2 => r = .inl (some (.int res)) ∧ M2 = M')) (ih_2 : ∀ (r0 : Nat) (x1 : Int32) (x2 : Int32) (x3 : Int32) (x4 : Int32) (M : am_M), rc 2 r0 x1 x2 x3 x4 M = some (res, M') → AW u_Model_pairings R_Model_pairings 0 0 93 [(0, .ref r0), (1, .int x1), (2, .int x2), (3, .int x3)] [] M (fun r M2 => r = .inl (some (.int res)) ∧ M2 = M')) (ih_3 : ∀ (r0 : Nat) (x1 : Int32) (x2 : Int32) (x3 : Int32) (x4 : Int32) (M : am_M), rc 3 r0 x1 x2 x3 x4 M = some (res, M') → AW u_Model_pairings R_Model_pairings 0 0 96 [(0, .ref r0), (1, .int x1), (2, .int x2), (3, .int x3), (4, .int x4)] [] M (fun r M2 => r = .inl (some (.int res)) ∧ M2 = M')) (ih_4 : ∀ (r0 : Nat) (x1 : Int32) (x2 : Int32) (x3 : Int32) (x4 : Int32) (M : am_M), rc 4 r0 x1 x2 x3 x4 M = some (res, M') → AW u_Model_pairings R_Model_pairings 0 0 189 [(0, .ref r0), (1, .int x1), (2, .int x2)] [] M (fun r M2 => r = .inl (some (.int res)) ∧ M2 = M')) (ih_5 : ∀ (r0 : Nat) (x1 : Int32) (x2 : Int32) (x3 : Int32) (x4 : Int32) (M : am_M), rc 5 r0 x1 x2 x3 x4 M = some (res, M') → AW u_Model_pairings R_Model_pairings 0 0 195 [(0, .ref r0), (1, .int x1)] [] M (fun r M2 => r = .inl (some (.int res)) ∧ M2 = M')) : ∀ (r0 : Nat) (x1 : Int32) (x2 : Int32) (x3 : Int32) (x4 : Int32) (M : am_M), a_Model_pairings_5 rc r0 x1 x2 x3 x4 M = some (res, M') → AW u_Model_pairings R_Model_pairings 0 0 195 [(0, .ref r0), (1, .int x1)] [] M (fun r M2 => r = .inl (some (.int res)) ∧ M2 = M') := by
  intro r0 x1 x2 x3 x4 M h
  unfold a_Model_pairings_5 at h
  refine aw_aload_n d_Model_pairings_195 rfl rfl ?_
  refine aw_iload_n d_Model_pairings_196 rfl rfl ?_
  obtain ⟨M197, e_M197, h⟩ := q_bind h
  refine aw_pti d_Model_pairings_197 fl_Model_102 rfl rfl e_M197 ?_
  refine aw_aload_n d_Model_pairings_200 rfl rfl ?_
  obtain ⟨t201, e_t201, h⟩ := q_bind h
  refine aw_gti d_Model_pairings_201 fl_Model_102 (Or.inl rfl) e_t201 ?_
  cases h
  exact aw_ireturn d_Model_pairings_204 rfl (Nat.le_of_ble_eq_true rfl) (Nat.le_of_ble_eq_true rfl) ⟨rfl, rfl⟩
theorem l_Model_pairings {res : Int32} {M' : am_M} : ∀ F : Nat, (∀ (r0 : Nat) (x1 : Int32) (x2 : Int32) (x3 : Int32) (x4 : Int32) (M : am_M), g_Model_pairings F 0 r0 x1 x2 x3 x4 M = some (res, M') → AW u_Model_pairings R_Model_pairings 0 0 13 [(0, .ref r0), (1, .int x1), (2, .int x2)] [] M (fun r M2 => r = .inl (some (.int res)) ∧ M2 = M')) ∧ (∀ (r0 : Nat) (x1 : Int32) (x2 : Int32) (x3 : Int32) (x4 : Int32) (M : am_M), g_Model_pairings F 1 r0 x1 x2 x3 x4 M = some (res, M') → AW u_Model_pairings R_Model_pairings 0 0 65 [(0, .ref r0), (1, .int x1), (2, .int x2), (3, .int x3)] [] M (fun r M2 => r = .inl (some (.int res)) ∧ M2 = M')) ∧ (∀ (r0 : Nat) (x1 : Int32) (x2 : Int32) (x3 : Int32) (x4 : Int32) (M : am_M), g_Model_pairings F 2 r0 x1 x2 x3 x4 M = some (res, M') → AW u_Model_pairings R_Model_pairings 0 0 93 [(0, .ref r0), (1, .int x1), (2, .int x2), (3, .int x3)] [] M (fun r M2 => r = .inl (some (.int res)) ∧ M2 = M')) ∧ (∀ (r0 : Nat) (x1 : Int32) (x2 : Int32) (x3 : Int32) (x4 : Int32) (M : am_M), g_Model_pairings F 3 r0 x1 x2 x3 x4 M = some (res, M') → AW u_Model_pairings R_Model_pairings 0 0 96 [(0, .ref r0), (1, .int x1), (2, .int x2), (3, .int x3), (4, .int x4)] [] M (fun r M2 => r = .inl (some (.int res)) ∧ M2 = M')) ∧ (∀ (r0 : Nat) (x1 : Int32) (x2 : Int32) (x3 : Int32) (x4 : Int32) (M : am_M), g_Model_pairings F 4 r0 x1 x2 x3 x4 M = some (res, M') → AW u_Model_pairings R_Model_pairings 0 0 189 [(0, .ref r0), (1, .int x1), (2, .int x2)] [] M (fun r M2 => r = .inl (some (.int res)) ∧ M2 = M')) ∧ (∀ (r0 : Nat) (x1 : Int32) (x2 : Int32) (x3 : Int32) (x4 : Int32) (M : am_M), g_Model_pairings F 5 r0 x1 x2 x3 x4 M = some (res, M') → AW u_Model_pairings R_Model_pairings 0 0 195 [(0, .ref r0), (1, .int x1)] [] M (fun r M2 => r = .inl (some (.int res)) ∧ M2 = M')) := by
  intro F
  induction F with
  | zero => exact ⟨fun _ _ _ _ _ _  h => (by cases h), fun _ _ _ _ _ _  h => (by cases h), fun _ _ _ _ _ _  h => (by cases h), fun _ _ _ _ _ _  h => (by cases h), fun _ _ _ _ _ _  h => (by cases h), fun _ _ _ _ _ _  h => (by cases h)⟩
  | succ F ih =>
    obtain ⟨ih0, ih1, ih2, ih3, ih4, ih5⟩ := ih
    exact ⟨s_Model_pairings_0 ih0 ih1 ih2 ih3 ih4 ih5, s_Model_pairings_1 ih0 ih1 ih2 ih3 ih4 ih5, s_Model_pairings_2 ih0 ih1 ih2 ih3 ih4 ih5, s_Model_pairings_3 ih0 ih1 ih2 ih3 ih4 ih5, s_Model_pairings_4 ih0 ih1 ih2 ih3 ih4 ih5, s_Model_pairings_5 ih0 ih1 ih2 ih3 ih4 ih5⟩
set_option maxHeartbeats 4000000 in
theorem mt_Model_pairings {M : am_M} {a0 : Nat} {res : Int32} {M' : am_M} (h : f_Model_pairings M a0 = some (res, M')) : AMet y_Model_pairings u_Model_pairings R_Model_pairings [.ref a0] M (fun r M2 => r = .inl (some (.int res)) ∧ M2 = M') := by
  refine am_met (by decide +kernel) w_Model_pairings rfl rfl (Nat.le_of_ble_eq_true rfl) ?_
  show AW u_Model_pairings R_Model_pairings 0 0 0 [(0, .ref a0)] [] M (fun r M2 => r = .inl (some (.int res)) ∧ M2 = M')
  have ih_0 := (l_Model_pairings (res := res) (M' := M') 1000000000).1
  have ih_1 := (l_Model_pairings (res := res) (M' := M') 1000000000).2.1
  have ih_2 := (l_Model_pairings (res := res) (M' := M') 1000000000).2.2.1
  have ih_3 := (l_Model_pairings (res := res) (M' := M') 1000000000).2.2.2.1
  have ih_4 := (l_Model_pairings (res := res) (M' := M') 1000000000).2.2.2.2.1
  have ih_5 := (l_Model_pairings (res := res) (M' := M') 1000000000).2.2.2.2.2
  unfold f_Model_pairings at h
  unfold e_Model_pairings at h
  generalize g_Model_pairings 1000000000 = rc at h ih_0 ih_1 ih_2 ih_3 ih_4 ih_5
  refine aw_aload_n d_Model_pairings_0 rfl rfl ?_
  refine aw_iconst (v := 0) d_Model_pairings_1 (by decide) ?_
  obtain ⟨M2, e_M2, h⟩ := q_bind h
  refine aw_pti d_Model_pairings_2 fl_Model_155 rfl rfl e_M2 ?_
  refine aw_aload_n d_Model_pairings_5 rfl rfl ?_
  obtain ⟨o6, e_o6, h⟩ := q_bind h
  obtain ⟨⟨t6, M6⟩, e_t6, h⟩ := q_bind h
  dsimp only at h
  refine aw_cV (v := none) (As := []) (rest := []) (st' := []) d_Model_pairings_6 kV_Model_188 (q_ob_spec e_o6).1 (q_ob_spec e_o6).2 ⟨Nat.le_of_ble_eq_true rfl, Nat.le_of_ble_eq_true rfl, Nat.le_of_ble_eq_true rfl, Nat.le_of_ble_eq_true rfl⟩ rfl rfl (Nat.le_of_ble_eq_true rfl) rfl (mt_Model_loses e_t6) ?_
  refine aw_iconst (v := 0) d_Model_pairings_9 (by decide) ?_
  refine aw_istore_n (ls' := [(1, .int _), (0, .ref _)]) d_Model_pairings_10 rfl (Nat.le_of_ble_eq_true rfl) rfl ?_
  refine aw_iconst (v := 1) d_Model_pairings_11 (by decide) ?_
  refine aw_istore_n (ls' := [(2, .int _), (1, .int _), (0, .ref _)]) d_Model_pairings_12 rfl (Nat.le_of_ble_eq_true rfl) rfl ?_
  exact aw_pick [2, 1, 0] rfl (ih_0 _ _ _ _ _ _ h)
def y_Clock_hasNightRest : MethodName := ⟨"CrewOffice$Clock", "hasNightRest", "(II)Z"⟩
def u_Clock_hasNightRest : am_U := ("CrewOffice$Clock", "hasNightRest", prog_3_method_5_code, 8, (some .boolean), [])
def R_Clock_hasNightRest : Room := { frames := 2, cells := 0, slots := 0, locals := 45 }
theorem d_Clock_hasNightRest_0 : decode u_Clock_hasNightRest.2.2.1 0 = .ok (.iconst 0, 1) := by decide +kernel
theorem d_Clock_hasNightRest_1 : decode u_Clock_hasNightRest.2.2.1 1 = .ok (.istore_n 3, 1) := by decide +kernel
theorem d_Clock_hasNightRest_2 : decode u_Clock_hasNightRest.2.2.1 2 = .ok (.iload_n 1, 1) := by decide +kernel
theorem d_Clock_hasNightRest_3 : decode u_Clock_hasNightRest.2.2.1 3 = .ok (.istore 4, 2) := by decide +kernel
theorem d_Clock_hasNightRest_5 : decode u_Clock_hasNightRest.2.2.1 5 = .ok (.iconst 0, 1) := by decide +kernel
theorem d_Clock_hasNightRest_6 : decode u_Clock_hasNightRest.2.2.1 6 = .ok (.istore 5, 2) := by decide +kernel
theorem d_Clock_hasNightRest_8 : decode u_Clock_hasNightRest.2.2.1 8 = .ok (.iload 5, 2) := by decide +kernel
theorem d_Clock_hasNightRest_10 : decode u_Clock_hasNightRest.2.2.1 10 = .ok (.bipush 100, 2) := by decide +kernel
theorem d_Clock_hasNightRest_12 : decode u_Clock_hasNightRest.2.2.1 12 = .ok (.if_icmp .ge 68, 3) := by decide +kernel
theorem d_Clock_hasNightRest_15 : decode u_Clock_hasNightRest.2.2.1 15 = .ok (.iload 4, 2) := by decide +kernel
theorem d_Clock_hasNightRest_17 : decode u_Clock_hasNightRest.2.2.1 17 = .ok (.iload_n 2, 1) := by decide +kernel
theorem d_Clock_hasNightRest_18 : decode u_Clock_hasNightRest.2.2.1 18 = .ok (.if_icmp .ge 62, 3) := by decide +kernel
theorem d_Clock_hasNightRest_21 : decode u_Clock_hasNightRest.2.2.1 21 = .ok (.iload_n 3, 1) := by decide +kernel
theorem d_Clock_hasNightRest_22 : decode u_Clock_hasNightRest.2.2.1 22 = .ok (.sipush 480, 3) := by decide +kernel
theorem d_Clock_hasNightRest_25 : decode u_Clock_hasNightRest.2.2.1 25 = .ok (.if_icmp .ge 55, 3) := by decide +kernel
theorem d_Clock_hasNightRest_28 : decode u_Clock_hasNightRest.2.2.1 28 = .ok (.aload_n 0, 1) := by decide +kernel
theorem d_Clock_hasNightRest_29 : decode u_Clock_hasNightRest.2.2.1 29 = .ok (.iload 4, 2) := by decide +kernel
theorem d_Clock_hasNightRest_31 : decode u_Clock_hasNightRest.2.2.1 31 = .ok (.invokevirtual 31, 3) := by decide +kernel
theorem d_Clock_hasNightRest_34 : decode u_Clock_hasNightRest.2.2.1 34 = .ok (.istore 6, 2) := by decide +kernel
theorem d_Clock_hasNightRest_36 : decode u_Clock_hasNightRest.2.2.1 36 = .ok (.iload_n 2, 1) := by decide +kernel
theorem d_Clock_hasNightRest_37 : decode u_Clock_hasNightRest.2.2.1 37 = .ok (.aload_n 0, 1) := by decide +kernel
theorem d_Clock_hasNightRest_38 : decode u_Clock_hasNightRest.2.2.1 38 = .ok (.iload 4, 2) := by decide +kernel
theorem d_Clock_hasNightRest_40 : decode u_Clock_hasNightRest.2.2.1 40 = .ok (.iload 6, 2) := by decide +kernel
theorem d_Clock_hasNightRest_42 : decode u_Clock_hasNightRest.2.2.1 42 = .ok (.invokevirtual 34, 3) := by decide +kernel
theorem d_Clock_hasNightRest_45 : decode u_Clock_hasNightRest.2.2.1 45 = .ok (.invokestatic 37, 3) := by decide +kernel
theorem d_Clock_hasNightRest_48 : decode u_Clock_hasNightRest.2.2.1 48 = .ok (.istore 7, 2) := by decide +kernel
theorem d_Clock_hasNightRest_50 : decode u_Clock_hasNightRest.2.2.1 50 = .ok (.iload 6, 2) := by decide +kernel
theorem d_Clock_hasNightRest_52 : decode u_Clock_hasNightRest.2.2.1 52 = .ok (.invokestatic 40, 3) := by decide +kernel
theorem d_Clock_hasNightRest_55 : decode u_Clock_hasNightRest.2.2.1 55 = .ok (.ifCond .eq 13, 3) := by decide +kernel
theorem d_Clock_hasNightRest_58 : decode u_Clock_hasNightRest.2.2.1 58 = .ok (.iload_n 3, 1) := by decide +kernel
theorem d_Clock_hasNightRest_59 : decode u_Clock_hasNightRest.2.2.1 59 = .ok (.iload 7, 2) := by decide +kernel
theorem d_Clock_hasNightRest_61 : decode u_Clock_hasNightRest.2.2.1 61 = .ok (.iadd, 1) := by decide +kernel
theorem d_Clock_hasNightRest_62 : decode u_Clock_hasNightRest.2.2.1 62 = .ok (.iload 4, 2) := by decide +kernel
theorem d_Clock_hasNightRest_64 : decode u_Clock_hasNightRest.2.2.1 64 = .ok (.isub, 1) := by decide +kernel
theorem d_Clock_hasNightRest_65 : decode u_Clock_hasNightRest.2.2.1 65 = .ok (.goto 4, 3) := by decide +kernel
theorem d_Clock_hasNightRest_68 : decode u_Clock_hasNightRest.2.2.1 68 = .ok (.iconst 0, 1) := by decide +kernel
theorem d_Clock_hasNightRest_69 : decode u_Clock_hasNightRest.2.2.1 69 = .ok (.istore_n 3, 1) := by decide +kernel
theorem d_Clock_hasNightRest_70 : decode u_Clock_hasNightRest.2.2.1 70 = .ok (.iload 7, 2) := by decide +kernel
theorem d_Clock_hasNightRest_72 : decode u_Clock_hasNightRest.2.2.1 72 = .ok (.istore 4, 2) := by decide +kernel
theorem d_Clock_hasNightRest_74 : decode u_Clock_hasNightRest.2.2.1 74 = .ok (.iinc 5 1, 3) := by decide +kernel
theorem d_Clock_hasNightRest_77 : decode u_Clock_hasNightRest.2.2.1 77 = .ok (.goto (-69), 3) := by decide +kernel
theorem d_Clock_hasNightRest_80 : decode u_Clock_hasNightRest.2.2.1 80 = .ok (.iload_n 3, 1) := by decide +kernel
theorem d_Clock_hasNightRest_81 : decode u_Clock_hasNightRest.2.2.1 81 = .ok (.sipush 480, 3) := by decide +kernel
theorem d_Clock_hasNightRest_84 : decode u_Clock_hasNightRest.2.2.1 84 = .ok (.if_icmp .lt 7, 3) := by decide +kernel
theorem d_Clock_hasNightRest_87 : decode u_Clock_hasNightRest.2.2.1 87 = .ok (.iconst 1, 1) := by decide +kernel
theorem d_Clock_hasNightRest_88 : decode u_Clock_hasNightRest.2.2.1 88 = .ok (.goto 4, 3) := by decide +kernel
theorem d_Clock_hasNightRest_91 : decode u_Clock_hasNightRest.2.2.1 91 = .ok (.iconst 0, 1) := by decide +kernel
theorem d_Clock_hasNightRest_92 : decode u_Clock_hasNightRest.2.2.1 92 = .ok (.ireturn, 1) := by decide +kernel
theorem w_Clock_hasNightRest : am_code y_Clock_hasNightRest u_Clock_hasNightRest ∈ am_ws := am_mem (List.mem_of_getElem? (i := 560) (by decide +kernel)) rfl
def a_Clock_hasNightRest_0 (rc : Nat → Nat → Int32 → Int32 → Int32 → Int32 → Int32 → Int32 → am_M → Option (Int32)) (r0 : Nat) (x2 : Int32) (x3 : Int32) (x4 : Int32) (x5 : Int32) (x7 : Int32) (s0 : Int32) (M : am_M) : Option (Int32) := if (100 : Int32) ≤ x5 then (rc 2 0 0 x3 0 0 0 0 M) else (if x2 ≤ x4 then (rc 2 0 0 x3 0 0 0 0 M) else (if (480 : Int32) ≤ x3 then (rc 2 0 0 x3 0 0 0 0 M) else ((q_ob M r0 0).bind (fun o31 => (f_Clock_timeOfDay M r0 x4).bind (fun t31 => (q_ob M r0 0).bind (fun o42 => (f_Clock_stretchEnd M r0 x4 t31).bind (fun t42 => (f_Math_min M x2 t42).bind (fun t45 => (f_Clock_isNight M t31).bind (fun t52 => if t52 = 0 then (rc 1 r0 x2 0 0 x5 t45 (0 : Int32) M) else (rc 1 r0 x2 0 0 x5 t45 ((x3 + t45) - x4) M))))))))))
def a_Clock_hasNightRest_1 (rc : Nat → Nat → Int32 → Int32 → Int32 → Int32 → Int32 → Int32 → am_M → Option (Int32)) (r0 : Nat) (x2 : Int32) (x3 : Int32) (x4 : Int32) (x5 : Int32) (x7 : Int32) (s0 : Int32) (M : am_M) : Option (Int32) := rc 0 r0 x2 s0 x7 (x5 + (1 : Int32)) 0 0 M
def a_Clock_hasNightRest_2 (rc : Nat → Nat → Int32 → Int32 → Int32 → Int32 → Int32 → Int32 → am_M → Option (Int32)) (r0 : Nat) (x2 : Int32) (x3 : Int32) (x4 : Int32) (x5 : Int32) (x7 : Int32) (s0 : Int32) (M : am_M) : Option (Int32) := if x3 < (480 : Int32) then (some (0 : Int32)) else (some (1 : Int32))
def g_Clock_hasNightRest : Nat → Nat → Nat → Int32 → Int32 → Int32 → Int32 → Int32 → Int32 → am_M → Option (Int32)
  | 0, _, _, _, _, _, _, _, _, _ => none
  | F + 1, 0, r0, x2, x3, x4, x5, x7, s0, M => a_Clock_hasNightRest_0 (g_Clock_hasNightRest F) r0 x2 x3 x4 x5 x7 s0 M
  | F + 1, 1, r0, x2, x3, x4, x5, x7, s0, M => a_Clock_hasNightRest_1 (g_Clock_hasNightRest F) r0 x2 x3 x4 x5 x7 s0 M
  | F + 1, 2, r0, x2, x3, x4, x5, x7, s0, M => a_Clock_hasNightRest_2 (g_Clock_hasNightRest F) r0 x2 x3 x4 x5 x7 s0 M
  | _ + 1, _ + 3, _, _, _, _, _, _, _, _ => none
def e_Clock_hasNightRest (rc : Nat → Nat → Int32 → Int32 → Int32 → Int32 → Int32 → Int32 → am_M → Option (Int32)) (M : am_M) (a0 : Nat) (a1 : Int32) (a2 : Int32) : Option (Int32) := rc 0 a0 a2 (0 : Int32) a1 (0 : Int32) 0 0 M
def f_Clock_hasNightRest (M : am_M) (a0 : Nat) (a1 : Int32) (a2 : Int32) : Option (Int32) := e_Clock_hasNightRest (g_Clock_hasNightRest 1000000000) M a0 a1 a2
theorem kV_Clock_31 : am_kV "CrewOffice$Clock" 31 0 y_Clock_timeOfDay u_Clock_timeOfDay 1 := ⟨List.mem_of_getElem? (i := 561) (by decide +kernel), ⟨List.mem_of_getElem? (i := 533) (by decide +kernel), List.mem_of_getElem? (i := 534) (by decide +kernel)⟩, List.mem_of_getElem? (i := 56) (by decide +kernel), w_Clock_timeOfDay, ⟨⟨by decide +kernel, by decide +kernel⟩, by decide +kernel⟩⟩
theorem kV_Clock_34 : am_kV "CrewOffice$Clock" 34 0 y_Clock_stretchEnd u_Clock_stretchEnd 2 := ⟨List.mem_of_getElem? (i := 562) (by decide +kernel), ⟨List.mem_of_getElem? (i := 564) (by decide +kernel), List.mem_of_getElem? (i := 12) (by decide +kernel)⟩, List.mem_of_getElem? (i := 56) (by decide +kernel), w_Clock_stretchEnd, ⟨⟨by decide +kernel, by decide +kernel⟩, by decide +kernel⟩⟩
theorem kS_Clock_40 : am_kS "CrewOffice$Clock" 40 y_Clock_isNight u_Clock_isNight 1 := ⟨List.mem_of_getElem? (i := 567) (by decide +kernel), List.mem_of_getElem? (i := 568) (by decide +kernel), List.mem_of_getElem? (i := 56) (by decide +kernel), w_Clock_isNight, ⟨⟨by decide +kernel, by decide +kernel⟩, by decide +kernel⟩⟩
set_option maxHeartbeats 4000000 in
theorem s_Clock_hasNightRest_0 {rc : Nat → Nat → Int32 → Int32 → Int32 → Int32 → Int32 → Int32 → am_M → Option (Int32)} {res : Int32} (ih_0 : ∀ (r0 : Nat) (x2 : Int32) (x3 : Int32) (x4 : Int32) (x5 : Int32) (x7 : Int32) (s0 : Int32) (M : am_M), rc 0 r0 x2 x3 x4 x5 x7 s0 M = some res → AW u_Clock_hasNightRest R_Clock_hasNightRest 0 0 8 [(0, .ref r0), (2, .int x2), (3, .int x3), (4, .int x4), (5, .int x5)] [] M (fun r M2 => r = .inl (some (.int res)) ∧ M2 = M)) (ih_1 : ∀ (r0 : Nat) (x2 : Int32) (x3 : Int32) (x4 : Int32) (x5 : Int32) (x7 : Int32) (s0 : Int32) (M : am_M), rc 1 r0 x2 x3 x4 x5 x7 s0 M = some res → AW u_Clock_hasNightRest R_Clock_hasNightRest 0 0 69 [(0, .ref r0), (2, .int x2), (5, .int x5), (7, .int x7)] [.int s0] M (fun r M2 => r = .inl (some (.int res)) ∧ M2 = M)) (ih_2 : ∀ (r0 : Nat) (x2 : Int32) (x3 : Int32) (x4 : Int32) (x5 : Int32) (x7 : Int32) (s0 : Int32) (M : am_M), rc 2 r0 x2 x3 x4 x5 x7 s0 M = some res → AW u_Clock_hasNightRest R_Clock_hasNightRest 0 0 80 [(3, .int x3)] [] M (fun r M2 => r = .inl (some (.int res)) ∧ M2 = M)) : ∀ (r0 : Nat) (x2 : Int32) (x3 : Int32) (x4 : Int32) (x5 : Int32) (x7 : Int32) (s0 : Int32) (M : am_M), a_Clock_hasNightRest_0 rc r0 x2 x3 x4 x5 x7 s0 M = some res → AW u_Clock_hasNightRest R_Clock_hasNightRest 0 0 8 [(0, .ref r0), (2, .int x2), (3, .int x3), (4, .int x4), (5, .int x5)] [] M (fun r M2 => r = .inl (some (.int res)) ∧ M2 = M) := by
  intro r0 x2 x3 x4 x5 x7 s0 M h
  unfold a_Clock_hasNightRest_0 at h
  refine aw_iload d_Clock_hasNightRest_8 rfl ?_
  refine aw_bipush (v := 100) d_Clock_hasNightRest_10 (by decide) ?_
  refine aw_icmp_ge (tgt := 80) d_Clock_hasNightRest_12 (by decide) (fun hc => ?_) (fun hc => ?_)
  · rw [if_pos hc] at h
    exact aw_pick [2] rfl (ih_2 _ _ _ _ _ _ _ _ h)
  · rw [if_neg hc] at h
    refine aw_iload d_Clock_hasNightRest_15 rfl ?_
    refine aw_iload_n d_Clock_hasNightRest_17 rfl rfl ?_
    refine aw_icmp_ge (tgt := 80) d_Clock_hasNightRest_18 (by decide) (fun hc => ?_) (fun hc => ?_)
    · rw [if_pos hc] at h
      exact aw_pick [2] rfl (ih_2 _ _ _ _ _ _ _ _ h)
    · rw [if_neg hc] at h
      refine aw_iload_n d_Clock_hasNightRest_21 rfl rfl ?_
      refine aw_sipush (v := 480) d_Clock_hasNightRest_22 (by decide) ?_
      refine aw_icmp_ge (tgt := 80) d_Clock_hasNightRest_25 (by decide) (fun hc => ?_) (fun hc => ?_)
      · rw [if_pos hc] at h
        exact aw_pick [2] rfl (ih_2 _ _ _ _ _ _ _ _ h)
      · rw [if_neg hc] at h
        refine aw_aload_n d_Clock_hasNightRest_28 rfl rfl ?_
        refine aw_iload d_Clock_hasNightRest_29 rfl ?_
        obtain ⟨o31, e_o31, h⟩ := q_bind h
        obtain ⟨t31, e_t31, h⟩ := q_bind h
        refine aw_cV (v := (some (.int t31))) (As := [.int x4]) (rest := []) (st' := [.int t31]) d_Clock_hasNightRest_31 kV_Clock_31 (q_ob_spec e_o31).1 (q_ob_spec e_o31).2 ⟨Nat.le_of_ble_eq_true rfl, Nat.le_of_ble_eq_true rfl, Nat.le_of_ble_eq_true rfl, Nat.le_of_ble_eq_true rfl⟩ rfl rfl (Nat.le_of_ble_eq_true rfl) rfl (mt_Clock_timeOfDay e_t31) ?_
        refine aw_istore (ls' := [(6, .int _), (0, .ref _), (2, .int _), (3, .int _), (4, .int _), (5, .int _)]) d_Clock_hasNightRest_34 (Nat.le_of_ble_eq_true rfl) rfl ?_
        refine aw_iload_n d_Clock_hasNightRest_36 rfl rfl ?_
        refine aw_aload_n d_Clock_hasNightRest_37 rfl rfl ?_
        refine aw_iload d_Clock_hasNightRest_38 rfl ?_
        refine aw_iload d_Clock_hasNightRest_40 rfl ?_
        obtain ⟨o42, e_o42, h⟩ := q_bind h
        obtain ⟨t42, e_t42, h⟩ := q_bind h
        refine aw_cV (v := (some (.int t42))) (As := [.int x4, .int t31]) (rest := [.int x2]) (st' := [.int t42, .int x2]) d_Clock_hasNightRest_42 kV_Clock_34 (q_ob_spec e_o42).1 (q_ob_spec e_o42).2 ⟨Nat.le_of_ble_eq_true rfl, Nat.le_of_ble_eq_true rfl, Nat.le_of_ble_eq_true rfl, Nat.le_of_ble_eq_true rfl⟩ rfl rfl (Nat.le_of_ble_eq_true rfl) rfl (mt_Clock_stretchEnd e_t42) ?_
        obtain ⟨t45, e_t45, h⟩ := q_bind h
        refine aw_cS (v := (some (.int t45))) (As := [.int x2, .int t42]) (rest := []) (st' := [.int t45]) d_Clock_hasNightRest_45 kS_Clock_37 ⟨Nat.le_of_ble_eq_true rfl, Nat.le_of_ble_eq_true rfl, Nat.le_of_ble_eq_true rfl, Nat.le_of_ble_eq_true rfl⟩ rfl rfl (Nat.le_of_ble_eq_true rfl) rfl (mt_Math_min e_t45) ?_
        refine aw_istore (ls' := [(7, .int _), (6, .int _), (0, .ref _), (2, .int _), (3, .int _), (4, .int _), (5, .int _)]) d_Clock_hasNightRest_48 (Nat.le_of_ble_eq_true rfl) rfl ?_
        refine aw_iload d_Clock_hasNightRest_50 rfl ?_
        obtain ⟨t52, e_t52, h⟩ := q_bind h
        refine aw_cS (v := (some (.int t52))) (As := [.int t31]) (rest := []) (st' := [.int t52]) d_Clock_hasNightRest_52 kS_Clock_40 ⟨Nat.le_of_ble_eq_true rfl, Nat.le_of_ble_eq_true rfl, Nat.le_of_ble_eq_true rfl, Nat.le_of_ble_eq_true rfl⟩ rfl rfl (Nat.le_of_ble_eq_true rfl) rfl (mt_Clock_isNight e_t52) ?_
        refine aw_if_eq (tgt := 68) d_Clock_hasNightRest_55 (by decide) (fun hc => ?_) (fun hc => ?_)
        · rw [if_pos hc] at h
          refine aw_iconst (v := 0) d_Clock_hasNightRest_68 (by decide) ?_
          exact aw_pick [2, 3, 6, 0] rfl (ih_1 _ _ _ _ _ _ _ _ h)
        · rw [if_neg hc] at h
          refine aw_iload_n d_Clock_hasNightRest_58 rfl rfl ?_
          refine aw_iload d_Clock_hasNightRest_59 rfl ?_
          refine aw_iadd d_Clock_hasNightRest_61 ?_
          refine aw_iload d_Clock_hasNightRest_62 rfl ?_
          refine aw_isub d_Clock_hasNightRest_64 ?_
          refine aw_goto (tgt := 69) d_Clock_hasNightRest_65 (by decide) ?_
          exact aw_pick [2, 3, 6, 0] rfl (ih_1 _ _ _ _ _ _ _ _ h)
set_option maxHeartbeats 4000000 in
theorem s_Clock_hasNightRest_1 {rc : Nat → Nat → Int32 → Int32 → Int32 → Int32 → Int32 → Int32 → am_M → Option (Int32)} {res : Int32} (ih_0 : ∀ (r0 : Nat) (x2 : Int32) (x3 : Int32) (x4 : Int32) (x5 : Int32) (x7 : Int32) (s0 : Int32) (M : am_M), rc 0 r0 x2 x3 x4 x5 x7 s0 M = some res → AW u_Clock_hasNightRest R_Clock_hasNightRest 0 0 8 [(0, .ref r0), (2, .int x2), (3, .int x3), (4, .int x4), (5, .int x5)] [] M (fun r M2 => r = .inl (some (.int res)) ∧ M2 = M)) (ih_1 : ∀ (r0 : Nat) (x2 : Int32) (x3 : Int32) (x4 : Int32) (x5 : Int32) (x7 : Int32) (s0 : Int32) (M : am_M), rc 1 r0 x2 x3 x4 x5 x7 s0 M = some res → AW u_Clock_hasNightRest R_Clock_hasNightRest 0 0 69 [(0, .ref r0), (2, .int x2), (5, .int x5), (7, .int x7)] [.int s0] M (fun r M2 => r = .inl (some (.int res)) ∧ M2 = M)) (ih_2 : ∀ (r0 : Nat) (x2 : Int32) (x3 : Int32) (x4 : Int32) (x5 : Int32) (x7 : Int32) (s0 : Int32) (M : am_M), rc 2 r0 x2 x3 x4 x5 x7 s0 M = some res → AW u_Clock_hasNightRest R_Clock_hasNightRest 0 0 80 [(3, .int x3)] [] M (fun r M2 => r = .inl (some (.int res)) ∧ M2 = M)) : ∀ (r0 : Nat) (x2 : Int32) (x3 : Int32) (x4 : Int32) (x5 : Int32) (x7 : Int32) (s0 : Int32) (M : am_M), a_Clock_hasNightRest_1 rc r0 x2 x3 x4 x5 x7 s0 M = some res → AW u_Clock_hasNightRest R_Clock_hasNightRest 0 0 69 [(0, .ref r0), (2, .int x2), (5, .int x5), (7, .int x7)] [.int s0] M (fun r M2 => r = .inl (some (.int res)) ∧ M2 = M) := by
  intro r0 x2 x3 x4 x5 x7 s0 M h
  unfold a_Clock_hasNightRest_1 at h
  refine aw_istore_n (ls' := [(3, .int _), (0, .ref _), (2, .int _), (5, .int _), (7, .int _)]) d_Clock_hasNightRest_69 rfl (Nat.le_of_ble_eq_true rfl) rfl ?_
  refine aw_iload d_Clock_hasNightRest_70 rfl ?_
  refine aw_istore (ls' := [(4, .int _), (3, .int _), (0, .ref _), (2, .int _), (5, .int _), (7, .int _)]) d_Clock_hasNightRest_72 (Nat.le_of_ble_eq_true rfl) rfl ?_
  refine aw_iinc (v := (x5 + (1 : Int32))) (ls' := [(5, .int _), (4, .int _), (3, .int _), (0, .ref _), (2, .int _), (7, .int _)]) d_Clock_hasNightRest_74 rfl rfl (Nat.le_of_ble_eq_true rfl) rfl ?_
  refine aw_goto (tgt := 8) d_Clock_hasNightRest_77 (by decide) ?_
  exact aw_pick [3, 4, 2, 1, 0] rfl (ih_0 _ _ _ _ _ _ _ _ h)
set_option maxHeartbeats 4000000 in
theorem s_Clock_hasNightRest_2 {rc : Nat → Nat → Int32 → Int32 → Int32 → Int32 → Int32 → Int32 → am_M → Option (Int32)} {res : Int32} (ih_0 : ∀ (r0 : Nat) (x2 : Int32) (x3 : Int32) (x4 : Int32) (x5 : Int32) (x7 : Int32) (s0 : Int32) (M : am_M), rc 0 r0 x2 x3 x4 x5 x7 s0 M = some res → AW u_Clock_hasNightRest R_Clock_hasNightRest 0 0 8 [(0, .ref r0), (2, .int x2), (3, .int x3), (4, .int x4), (5, .int x5)] [] M (fun r M2 => r = .inl (some (.int res)) ∧ M2 = M)) (ih_1 : ∀ (r0 : Nat) (x2 : Int32) (x3 : Int32) (x4 : Int32) (x5 : Int32) (x7 : Int32) (s0 : Int32) (M : am_M), rc 1 r0 x2 x3 x4 x5 x7 s0 M = some res → AW u_Clock_hasNightRest R_Clock_hasNightRest 0 0 69 [(0, .ref r0), (2, .int x2), (5, .int x5), (7, .int x7)] [.int s0] M (fun r M2 => r = .inl (some (.int res)) ∧ M2 = M)) (ih_2 : ∀ (r0 : Nat) (x2 : Int32) (x3 : Int32) (x4 : Int32) (x5 : Int32) (x7 : Int32) (s0 : Int32) (M : am_M), rc 2 r0 x2 x3 x4 x5 x7 s0 M = some res → AW u_Clock_hasNightRest R_Clock_hasNightRest 0 0 80 [(3, .int x3)] [] M (fun r M2 => r = .inl (some (.int res)) ∧ M2 = M)) : ∀ (r0 : Nat) (x2 : Int32) (x3 : Int32) (x4 : Int32) (x5 : Int32) (x7 : Int32) (s0 : Int32) (M : am_M), a_Clock_hasNightRest_2 rc r0 x2 x3 x4 x5 x7 s0 M = some res → AW u_Clock_hasNightRest R_Clock_hasNightRest 0 0 80 [(3, .int x3)] [] M (fun r M2 => r = .inl (some (.int res)) ∧ M2 = M) := by
  intro r0 x2 x3 x4 x5 x7 s0 M h
  unfold a_Clock_hasNightRest_2 at h
  refine aw_iload_n d_Clock_hasNightRest_80 rfl rfl ?_
  refine aw_sipush (v := 480) d_Clock_hasNightRest_81 (by decide) ?_
  refine aw_icmp_lt (tgt := 91) d_Clock_hasNightRest_84 (by decide) (fun hc => ?_) (fun hc => ?_)
  · rw [if_pos hc] at h
    refine aw_iconst (v := 0) d_Clock_hasNightRest_91 (by decide) ?_
    cases h
    exact aw_zreturn d_Clock_hasNightRest_92 rfl (by decide) (Nat.le_of_ble_eq_true rfl) (Nat.le_of_ble_eq_true rfl) ⟨rfl, rfl⟩
  · rw [if_neg hc] at h
    refine aw_iconst (v := 1) d_Clock_hasNightRest_87 (by decide) ?_
    refine aw_goto (tgt := 92) d_Clock_hasNightRest_88 (by decide) ?_
    cases h
    exact aw_zreturn d_Clock_hasNightRest_92 rfl (by decide) (Nat.le_of_ble_eq_true rfl) (Nat.le_of_ble_eq_true rfl) ⟨rfl, rfl⟩
theorem l_Clock_hasNightRest {res : Int32} : ∀ F : Nat, (∀ (r0 : Nat) (x2 : Int32) (x3 : Int32) (x4 : Int32) (x5 : Int32) (x7 : Int32) (s0 : Int32) (M : am_M), g_Clock_hasNightRest F 0 r0 x2 x3 x4 x5 x7 s0 M = some res → AW u_Clock_hasNightRest R_Clock_hasNightRest 0 0 8 [(0, .ref r0), (2, .int x2), (3, .int x3), (4, .int x4), (5, .int x5)] [] M (fun r M2 => r = .inl (some (.int res)) ∧ M2 = M)) ∧ (∀ (r0 : Nat) (x2 : Int32) (x3 : Int32) (x4 : Int32) (x5 : Int32) (x7 : Int32) (s0 : Int32) (M : am_M), g_Clock_hasNightRest F 1 r0 x2 x3 x4 x5 x7 s0 M = some res → AW u_Clock_hasNightRest R_Clock_hasNightRest 0 0 69 [(0, .ref r0), (2, .int x2), (5, .int x5), (7, .int x7)] [.int s0] M (fun r M2 => r = .inl (some (.int res)) ∧ M2 = M)) ∧ (∀ (r0 : Nat) (x2 : Int32) (x3 : Int32) (x4 : Int32) (x5 : Int32) (x7 : Int32) (s0 : Int32) (M : am_M), g_Clock_hasNightRest F 2 r0 x2 x3 x4 x5 x7 s0 M = some res → AW u_Clock_hasNightRest R_Clock_hasNightRest 0 0 80 [(3, .int x3)] [] M (fun r M2 => r = .inl (some (.int res)) ∧ M2 = M)) := by
  intro F
  induction F with
  | zero => exact ⟨fun _ _ _ _ _ _ _ _  h => (by cases h), fun _ _ _ _ _ _ _ _  h => (by cases h), fun _ _ _ _ _ _ _ _  h => (by cases h)⟩
  | succ F ih =>
    obtain ⟨ih0, ih1, ih2⟩ := ih
    exact ⟨s_Clock_hasNightRest_0 ih0 ih1 ih2, s_Clock_hasNightRest_1 ih0 ih1 ih2, s_Clock_hasNightRest_2 ih0 ih1 ih2⟩
set_option maxHeartbeats 4000000 in
theorem mt_Clock_hasNightRest {M : am_M} {a0 : Nat} {a1 : Int32} {a2 : Int32} {res : Int32} (h : f_Clock_hasNightRest M a0 a1 a2 = some res) : AMet y_Clock_hasNightRest u_Clock_hasNightRest R_Clock_hasNightRest [.ref a0, .int a1, .int a2] M (fun r M2 => r = .inl (some (.int res)) ∧ M2 = M) := by
  refine am_met (by decide +kernel) w_Clock_hasNightRest rfl rfl (Nat.le_of_ble_eq_true rfl) ?_
  show AW u_Clock_hasNightRest R_Clock_hasNightRest 0 0 0 [(0, .ref a0), (1, .int a1), (2, .int a2)] [] M (fun r M2 => r = .inl (some (.int res)) ∧ M2 = M)
  have ih_0 := (l_Clock_hasNightRest (res := res) 1000000000).1
  have ih_1 := (l_Clock_hasNightRest (res := res) 1000000000).2.1
  have ih_2 := (l_Clock_hasNightRest (res := res) 1000000000).2.2
  unfold f_Clock_hasNightRest at h
  unfold e_Clock_hasNightRest at h
  generalize g_Clock_hasNightRest 1000000000 = rc at h ih_0 ih_1 ih_2
  refine aw_iconst (v := 0) d_Clock_hasNightRest_0 (by decide) ?_
  refine aw_istore_n (ls' := [(3, .int _), (0, .ref _), (1, .int _), (2, .int _)]) d_Clock_hasNightRest_1 rfl (Nat.le_of_ble_eq_true rfl) rfl ?_
  refine aw_iload_n d_Clock_hasNightRest_2 rfl rfl ?_
  refine aw_istore (ls' := [(4, .int _), (3, .int _), (0, .ref _), (1, .int _), (2, .int _)]) d_Clock_hasNightRest_3 (Nat.le_of_ble_eq_true rfl) rfl ?_
  refine aw_iconst (v := 0) d_Clock_hasNightRest_5 (by decide) ?_
  refine aw_istore (ls' := [(5, .int _), (4, .int _), (3, .int _), (0, .ref _), (1, .int _), (2, .int _)]) d_Clock_hasNightRest_6 (Nat.le_of_ble_eq_true rfl) rfl ?_
  exact aw_pick [3, 5, 2, 1, 0] rfl (ih_0 _ _ _ _ _ _ _ _ h)
def y_Sharing_valueOf : MethodName := ⟨"CrewOffice$Sharing", "valueOf", "(LCrewOffice$Member;I)I"⟩
def u_Sharing_valueOf : am_U := ("CrewOffice$Sharing", "valueOf", prog_8_method_15_code, 5, (some .int), [])
def R_Sharing_valueOf : Room := { frames := 2, cells := 0, slots := 0, locals := 52 }
theorem d_Sharing_valueOf_0 : decode u_Sharing_valueOf.2.2.1 0 = .ok (.iconst 0, 1) := by decide +kernel
theorem d_Sharing_valueOf_1 : decode u_Sharing_valueOf.2.2.1 1 = .ok (.istore_n 3, 1) := by decide +kernel
theorem d_Sharing_valueOf_2 : decode u_Sharing_valueOf.2.2.1 2 = .ok (.iconst 0, 1) := by decide +kernel
theorem d_Sharing_valueOf_3 : decode u_Sharing_valueOf.2.2.1 3 = .ok (.istore 4, 2) := by decide +kernel
theorem d_Sharing_valueOf_5 : decode u_Sharing_valueOf.2.2.1 5 = .ok (.iload 4, 2) := by decide +kernel
theorem d_Sharing_valueOf_7 : decode u_Sharing_valueOf.2.2.1 7 = .ok (.aload_n 1, 1) := by decide +kernel
theorem d_Sharing_valueOf_8 : decode u_Sharing_valueOf.2.2.1 8 = .ok (.getfield 148, 3) := by decide +kernel
theorem d_Sharing_valueOf_11 : decode u_Sharing_valueOf.2.2.1 11 = .ok (.if_icmp .ge 39, 3) := by decide +kernel
theorem d_Sharing_valueOf_14 : decode u_Sharing_valueOf.2.2.1 14 = .ok (.iload_n 3, 1) := by decide +kernel
theorem d_Sharing_valueOf_15 : decode u_Sharing_valueOf.2.2.1 15 = .ok (.aload_n 1, 1) := by decide +kernel
theorem d_Sharing_valueOf_16 : decode u_Sharing_valueOf.2.2.1 16 = .ok (.getfield 151, 3) := by decide +kernel
theorem d_Sharing_valueOf_19 : decode u_Sharing_valueOf.2.2.1 19 = .ok (.iload 4, 2) := by decide +kernel
theorem d_Sharing_valueOf_21 : decode u_Sharing_valueOf.2.2.1 21 = .ok (.iaload, 1) := by decide +kernel
theorem d_Sharing_valueOf_22 : decode u_Sharing_valueOf.2.2.1 22 = .ok (.aload_n 0, 1) := by decide +kernel
theorem d_Sharing_valueOf_23 : decode u_Sharing_valueOf.2.2.1 23 = .ok (.aload_n 1, 1) := by decide +kernel
theorem d_Sharing_valueOf_24 : decode u_Sharing_valueOf.2.2.1 24 = .ok (.getfield 154, 3) := by decide +kernel
theorem d_Sharing_valueOf_27 : decode u_Sharing_valueOf.2.2.1 27 = .ok (.iload 4, 2) := by decide +kernel
theorem d_Sharing_valueOf_29 : decode u_Sharing_valueOf.2.2.1 29 = .ok (.iaload, 1) := by decide +kernel
theorem d_Sharing_valueOf_30 : decode u_Sharing_valueOf.2.2.1 30 = .ok (.aload_n 1, 1) := by decide +kernel
theorem d_Sharing_valueOf_31 : decode u_Sharing_valueOf.2.2.1 31 = .ok (.getfield 157, 3) := by decide +kernel
theorem d_Sharing_valueOf_34 : decode u_Sharing_valueOf.2.2.1 34 = .ok (.iload 4, 2) := by decide +kernel
theorem d_Sharing_valueOf_36 : decode u_Sharing_valueOf.2.2.1 36 = .ok (.iaload, 1) := by decide +kernel
theorem d_Sharing_valueOf_37 : decode u_Sharing_valueOf.2.2.1 37 = .ok (.iload_n 2, 1) := by decide +kernel
theorem d_Sharing_valueOf_38 : decode u_Sharing_valueOf.2.2.1 38 = .ok (.invokevirtual 160, 3) := by decide +kernel
theorem d_Sharing_valueOf_41 : decode u_Sharing_valueOf.2.2.1 41 = .ok (.imul, 1) := by decide +kernel
theorem d_Sharing_valueOf_42 : decode u_Sharing_valueOf.2.2.1 42 = .ok (.iadd, 1) := by decide +kernel
theorem d_Sharing_valueOf_43 : decode u_Sharing_valueOf.2.2.1 43 = .ok (.istore_n 3, 1) := by decide +kernel
theorem d_Sharing_valueOf_44 : decode u_Sharing_valueOf.2.2.1 44 = .ok (.iinc 4 1, 3) := by decide +kernel
theorem d_Sharing_valueOf_47 : decode u_Sharing_valueOf.2.2.1 47 = .ok (.goto (-42), 3) := by decide +kernel
theorem d_Sharing_valueOf_50 : decode u_Sharing_valueOf.2.2.1 50 = .ok (.iload_n 3, 1) := by decide +kernel
theorem d_Sharing_valueOf_51 : decode u_Sharing_valueOf.2.2.1 51 = .ok (.ireturn, 1) := by decide +kernel
theorem w_Sharing_valueOf : am_code y_Sharing_valueOf u_Sharing_valueOf ∈ am_ws := am_mem (List.mem_of_getElem? (i := 933) (by decide +kernel)) rfl
def a_Sharing_valueOf_0 (rc : Nat → Nat → Nat → Int32 → Int32 → Int32 → am_M → Option (Int32)) (r0 : Nat) (r1 : Nat) (x2 : Int32) (x3 : Int32) (x4 : Int32) (M : am_M) : Option (Int32) := (q_gti M r1 2 7).bind (fun t8 => if t8 ≤ x4 then (some x3) else ((q_gtr M r1 2 10).bind (fun t16 => (q_ldi M t16 x4).bind (fun t21 => (q_gtr M r1 2 8).bind (fun t24 => (q_ldi M t24 x4).bind (fun t29 => (q_gtr M r1 2 9).bind (fun t31 => (q_ldi M t31 x4).bind (fun t36 => (q_ob M r0 8).bind (fun o38 => (f_Sharing_timesMet M r0 t29 t36 x2).bind (fun t38 => rc 0 r0 r1 x2 (x3 + (t21 * t38)) (x4 + (1 : Int32)) M))))))))))
def g_Sharing_valueOf : Nat → Nat → Nat → Nat → Int32 → Int32 → Int32 → am_M → Option (Int32)
  | 0, _, _, _, _, _, _, _ => none
  | F + 1, 0, r0, r1, x2, x3, x4, M => a_Sharing_valueOf_0 (g_Sharing_valueOf F) r0 r1 x2 x3 x4 M
  | _ + 1, _ + 1, _, _, _, _, _, _ => none
def e_Sharing_valueOf (rc : Nat → Nat → Nat → Int32 → Int32 → Int32 → am_M → Option (Int32)) (M : am_M) (a0 : Nat) (a1 : Nat) (a2 : Int32) : Option (Int32) := rc 0 a0 a1 a2 (0 : Int32) (0 : Int32) M
def f_Sharing_valueOf (M : am_M) (a0 : Nat) (a1 : Nat) (a2 : Int32) : Option (Int32) := e_Sharing_valueOf (g_Sharing_valueOf 1000000000) M a0 a1 a2
theorem fl_Sharing_148 : am_fl "CrewOffice$Sharing" 148 2 7 := ⟨by decide, by decide, List.mem_of_getElem? (i := 183) (by decide +kernel)⟩
theorem fl_Sharing_151 : am_fl "CrewOffice$Sharing" 151 2 10 := ⟨by decide, by decide, List.mem_of_getElem? (i := 190) (by decide +kernel)⟩
theorem fl_Sharing_154 : am_fl "CrewOffice$Sharing" 154 2 8 := ⟨by decide, by decide, List.mem_of_getElem? (i := 186) (by decide +kernel)⟩
theorem fl_Sharing_157 : am_fl "CrewOffice$Sharing" 157 2 9 := ⟨by decide, by decide, List.mem_of_getElem? (i := 188) (by decide +kernel)⟩
theorem kV_Sharing_160 : am_kV "CrewOffice$Sharing" 160 8 y_Sharing_timesMet u_Sharing_timesMet 3 := ⟨List.mem_of_getElem? (i := 934) (by decide +kernel), ⟨List.mem_of_getElem? (i := 936) (by decide +kernel), List.mem_of_getElem? (i := 26) (by decide +kernel)⟩, List.mem_of_getElem? (i := 64) (by decide +kernel), w_Sharing_timesMet, ⟨⟨by decide +kernel, by decide +kernel⟩, by decide +kernel⟩⟩
set_option maxHeartbeats 4000000 in
theorem s_Sharing_valueOf_0 {rc : Nat → Nat → Nat → Int32 → Int32 → Int32 → am_M → Option (Int32)} {res : Int32} (ih_0 : ∀ (r0 : Nat) (r1 : Nat) (x2 : Int32) (x3 : Int32) (x4 : Int32) (M : am_M), rc 0 r0 r1 x2 x3 x4 M = some res → AW u_Sharing_valueOf R_Sharing_valueOf 0 0 5 [(0, .ref r0), (1, .ref r1), (2, .int x2), (3, .int x3), (4, .int x4)] [] M (fun r M2 => r = .inl (some (.int res)) ∧ M2 = M)) : ∀ (r0 : Nat) (r1 : Nat) (x2 : Int32) (x3 : Int32) (x4 : Int32) (M : am_M), a_Sharing_valueOf_0 rc r0 r1 x2 x3 x4 M = some res → AW u_Sharing_valueOf R_Sharing_valueOf 0 0 5 [(0, .ref r0), (1, .ref r1), (2, .int x2), (3, .int x3), (4, .int x4)] [] M (fun r M2 => r = .inl (some (.int res)) ∧ M2 = M) := by
  intro r0 r1 x2 x3 x4 M h
  unfold a_Sharing_valueOf_0 at h
  refine aw_iload d_Sharing_valueOf_5 rfl ?_
  refine aw_aload_n d_Sharing_valueOf_7 rfl rfl ?_
  obtain ⟨t8, e_t8, h⟩ := q_bind h
  refine aw_gti d_Sharing_valueOf_8 fl_Sharing_148 (Or.inl rfl) e_t8 ?_
  refine aw_icmp_ge (tgt := 50) d_Sharing_valueOf_11 (by decide) (fun hc => ?_) (fun hc => ?_)
  · rw [if_pos hc] at h
    refine aw_iload_n d_Sharing_valueOf_50 rfl rfl ?_
    cases h
    exact aw_ireturn d_Sharing_valueOf_51 rfl (Nat.le_of_ble_eq_true rfl) (Nat.le_of_ble_eq_true rfl) ⟨rfl, rfl⟩
  · rw [if_neg hc] at h
    refine aw_iload_n d_Sharing_valueOf_14 rfl rfl ?_
    refine aw_aload_n d_Sharing_valueOf_15 rfl rfl ?_
    obtain ⟨t16, e_t16, h⟩ := q_bind h
    refine aw_gtr d_Sharing_valueOf_16 fl_Sharing_151 (Or.inr ⟨_, rfl⟩) e_t16 ?_
    refine aw_iload d_Sharing_valueOf_19 rfl ?_
    obtain ⟨t21, e_t21, h⟩ := q_bind h
    refine aw_ldi d_Sharing_valueOf_21 e_t21 ?_
    refine aw_aload_n d_Sharing_valueOf_22 rfl rfl ?_
    refine aw_aload_n d_Sharing_valueOf_23 rfl rfl ?_
    obtain ⟨t24, e_t24, h⟩ := q_bind h
    refine aw_gtr d_Sharing_valueOf_24 fl_Sharing_154 (Or.inr ⟨_, rfl⟩) e_t24 ?_
    refine aw_iload d_Sharing_valueOf_27 rfl ?_
    obtain ⟨t29, e_t29, h⟩ := q_bind h
    refine aw_ldi d_Sharing_valueOf_29 e_t29 ?_
    refine aw_aload_n d_Sharing_valueOf_30 rfl rfl ?_
    obtain ⟨t31, e_t31, h⟩ := q_bind h
    refine aw_gtr d_Sharing_valueOf_31 fl_Sharing_157 (Or.inr ⟨_, rfl⟩) e_t31 ?_
    refine aw_iload d_Sharing_valueOf_34 rfl ?_
    obtain ⟨t36, e_t36, h⟩ := q_bind h
    refine aw_ldi d_Sharing_valueOf_36 e_t36 ?_
    refine aw_iload_n d_Sharing_valueOf_37 rfl rfl ?_
    obtain ⟨o38, e_o38, h⟩ := q_bind h
    obtain ⟨t38, e_t38, h⟩ := q_bind h
    refine aw_cV (v := (some (.int t38))) (As := [.int t29, .int t36, .int x2]) (rest := [.int t21, .int x3]) (st' := [.int t38, .int t21, .int x3]) d_Sharing_valueOf_38 kV_Sharing_160 (q_ob_spec e_o38).1 (q_ob_spec e_o38).2 ⟨Nat.le_of_ble_eq_true rfl, Nat.le_of_ble_eq_true rfl, Nat.le_of_ble_eq_true rfl, Nat.le_of_ble_eq_true rfl⟩ rfl rfl (Nat.le_of_ble_eq_true rfl) rfl (mt_Sharing_timesMet e_t38) ?_
    refine aw_imul d_Sharing_valueOf_41 ?_
    refine aw_iadd d_Sharing_valueOf_42 ?_
    refine aw_istore_n (ls' := [(3, .int _), (0, .ref _), (1, .ref _), (2, .int _), (4, .int _)]) d_Sharing_valueOf_43 rfl (Nat.le_of_ble_eq_true rfl) rfl ?_
    refine aw_iinc (v := (x4 + (1 : Int32))) (ls' := [(4, .int _), (3, .int _), (0, .ref _), (1, .ref _), (2, .int _)]) d_Sharing_valueOf_44 rfl rfl (Nat.le_of_ble_eq_true rfl) rfl ?_
    refine aw_goto (tgt := 5) d_Sharing_valueOf_47 (by decide) ?_
    exact aw_pick [2, 3, 4, 1, 0] rfl (ih_0 _ _ _ _ _ _ h)
theorem l_Sharing_valueOf {res : Int32} : ∀ F : Nat, (∀ (r0 : Nat) (r1 : Nat) (x2 : Int32) (x3 : Int32) (x4 : Int32) (M : am_M), g_Sharing_valueOf F 0 r0 r1 x2 x3 x4 M = some res → AW u_Sharing_valueOf R_Sharing_valueOf 0 0 5 [(0, .ref r0), (1, .ref r1), (2, .int x2), (3, .int x3), (4, .int x4)] [] M (fun r M2 => r = .inl (some (.int res)) ∧ M2 = M)) := by
  intro F
  induction F with
  | zero => exact fun _ _ _ _ _ _  h => (by cases h)
  | succ F ih =>
    have ih0 := ih
    exact s_Sharing_valueOf_0 ih0
set_option maxHeartbeats 4000000 in
theorem mt_Sharing_valueOf {M : am_M} {a0 : Nat} {a1 : Nat} {a2 : Int32} {res : Int32} (h : f_Sharing_valueOf M a0 a1 a2 = some res) : AMet y_Sharing_valueOf u_Sharing_valueOf R_Sharing_valueOf [.ref a0, .ref a1, .int a2] M (fun r M2 => r = .inl (some (.int res)) ∧ M2 = M) := by
  refine am_met (by decide +kernel) w_Sharing_valueOf rfl rfl (Nat.le_of_ble_eq_true rfl) ?_
  show AW u_Sharing_valueOf R_Sharing_valueOf 0 0 0 [(0, .ref a0), (1, .ref a1), (2, .int a2)] [] M (fun r M2 => r = .inl (some (.int res)) ∧ M2 = M)
  have ih_0 := (l_Sharing_valueOf (res := res) 1000000000)
  unfold f_Sharing_valueOf at h
  unfold e_Sharing_valueOf at h
  generalize g_Sharing_valueOf 1000000000 = rc at h ih_0
  refine aw_iconst (v := 0) d_Sharing_valueOf_0 (by decide) ?_
  refine aw_istore_n (ls' := [(3, .int _), (0, .ref _), (1, .ref _), (2, .int _)]) d_Sharing_valueOf_1 rfl (Nat.le_of_ble_eq_true rfl) rfl ?_
  refine aw_iconst (v := 0) d_Sharing_valueOf_2 (by decide) ?_
  refine aw_istore (ls' := [(4, .int _), (3, .int _), (0, .ref _), (1, .ref _), (2, .int _)]) d_Sharing_valueOf_3 (Nat.le_of_ble_eq_true rfl) rfl ?_
  exact aw_pick [2, 3, 4, 1, 0] rfl (ih_0 _ _ _ _ _ _ h)
def y_Trip_hasTooLongDuty : MethodName := ⟨"CrewOffice$Trip", "hasTooLongDuty", "()Z"⟩
def u_Trip_hasTooLongDuty : am_U := ("CrewOffice$Trip", "hasTooLongDuty", prog_9_method_12_code, 2, (some .boolean), [])
def R_Trip_hasTooLongDuty : Room := { frames := 3, cells := 0, slots := 0, locals := 66 }
theorem d_Trip_hasTooLongDuty_0 : decode u_Trip_hasTooLongDuty.2.2.1 0 = .ok (.iconst 0, 1) := by decide +kernel
theorem d_Trip_hasTooLongDuty_1 : decode u_Trip_hasTooLongDuty.2.2.1 1 = .ok (.istore_n 1, 1) := by decide +kernel
theorem d_Trip_hasTooLongDuty_2 : decode u_Trip_hasTooLongDuty.2.2.1 2 = .ok (.iload_n 1, 1) := by decide +kernel
theorem d_Trip_hasTooLongDuty_3 : decode u_Trip_hasTooLongDuty.2.2.1 3 = .ok (.aload_n 0, 1) := by decide +kernel
theorem d_Trip_hasTooLongDuty_4 : decode u_Trip_hasTooLongDuty.2.2.1 4 = .ok (.getfield 51, 3) := by decide +kernel
theorem d_Trip_hasTooLongDuty_7 : decode u_Trip_hasTooLongDuty.2.2.1 7 = .ok (.if_icmp .ge 24, 3) := by decide +kernel
theorem d_Trip_hasTooLongDuty_10 : decode u_Trip_hasTooLongDuty.2.2.1 10 = .ok (.aload_n 0, 1) := by decide +kernel
theorem d_Trip_hasTooLongDuty_11 : decode u_Trip_hasTooLongDuty.2.2.1 11 = .ok (.iload_n 1, 1) := by decide +kernel
theorem d_Trip_hasTooLongDuty_12 : decode u_Trip_hasTooLongDuty.2.2.1 12 = .ok (.invokevirtual 91, 3) := by decide +kernel
theorem d_Trip_hasTooLongDuty_15 : decode u_Trip_hasTooLongDuty.2.2.1 15 = .ok (.aload_n 0, 1) := by decide +kernel
theorem d_Trip_hasTooLongDuty_16 : decode u_Trip_hasTooLongDuty.2.2.1 16 = .ok (.iload_n 1, 1) := by decide +kernel
theorem d_Trip_hasTooLongDuty_17 : decode u_Trip_hasTooLongDuty.2.2.1 17 = .ok (.invokevirtual 140, 3) := by decide +kernel
theorem d_Trip_hasTooLongDuty_20 : decode u_Trip_hasTooLongDuty.2.2.1 20 = .ok (.if_icmp .le 5, 3) := by decide +kernel
theorem d_Trip_hasTooLongDuty_23 : decode u_Trip_hasTooLongDuty.2.2.1 23 = .ok (.iconst 1, 1) := by decide +kernel
theorem d_Trip_hasTooLongDuty_24 : decode u_Trip_hasTooLongDuty.2.2.1 24 = .ok (.ireturn, 1) := by decide +kernel
theorem d_Trip_hasTooLongDuty_25 : decode u_Trip_hasTooLongDuty.2.2.1 25 = .ok (.iinc 1 1, 3) := by decide +kernel
theorem d_Trip_hasTooLongDuty_28 : decode u_Trip_hasTooLongDuty.2.2.1 28 = .ok (.goto (-26), 3) := by decide +kernel
theorem d_Trip_hasTooLongDuty_31 : decode u_Trip_hasTooLongDuty.2.2.1 31 = .ok (.iconst 0, 1) := by decide +kernel
theorem d_Trip_hasTooLongDuty_32 : decode u_Trip_hasTooLongDuty.2.2.1 32 = .ok (.ireturn, 1) := by decide +kernel
theorem w_Trip_hasTooLongDuty : am_code y_Trip_hasTooLongDuty u_Trip_hasTooLongDuty ∈ am_ws := am_mem (List.mem_of_getElem? (i := 523) (by decide +kernel)) rfl
def a_Trip_hasTooLongDuty_0 (rc : Nat → Nat → Int32 → am_M → Option (Int32)) (r0 : Nat) (x1 : Int32) (M : am_M) : Option (Int32) := (q_gti M r0 5 2).bind (fun t4 => if t4 ≤ x1 then (some (0 : Int32)) else ((q_ob M r0 5).bind (fun o12 => (f_Trip_lengthOf M r0 x1).bind (fun t12 => (q_ob M r0 5).bind (fun o17 => (f_Trip_limitOf M r0 x1).bind (fun t17 => if t12 ≤ t17 then (rc 0 r0 (x1 + (1 : Int32)) M) else (some (1 : Int32))))))))
def g_Trip_hasTooLongDuty : Nat → Nat → Nat → Int32 → am_M → Option (Int32)
  | 0, _, _, _, _ => none
  | F + 1, 0, r0, x1, M => a_Trip_hasTooLongDuty_0 (g_Trip_hasTooLongDuty F) r0 x1 M
  | _ + 1, _ + 1, _, _, _ => none
def e_Trip_hasTooLongDuty (rc : Nat → Nat → Int32 → am_M → Option (Int32)) (M : am_M) (a0 : Nat) : Option (Int32) := rc 0 a0 (0 : Int32) M
def f_Trip_hasTooLongDuty (M : am_M) (a0 : Nat) : Option (Int32) := e_Trip_hasTooLongDuty (g_Trip_hasTooLongDuty 1000000000) M a0
theorem kV_Trip_140 : am_kV "CrewOffice$Trip" 140 5 y_Trip_limitOf u_Trip_limitOf 1 := ⟨List.mem_of_getElem? (i := 528) (by decide +kernel), ⟨List.mem_of_getElem? (i := 530) (by decide +kernel), List.mem_of_getElem? (i := 9) (by decide +kernel)⟩, List.mem_of_getElem? (i := 60) (by decide +kernel), w_Trip_limitOf, ⟨⟨by decide +kernel, by decide +kernel⟩, by decide +kernel⟩⟩
set_option maxHeartbeats 4000000 in
theorem s_Trip_hasTooLongDuty_0 {rc : Nat → Nat → Int32 → am_M → Option (Int32)} {res : Int32} (ih_0 : ∀ (r0 : Nat) (x1 : Int32) (M : am_M), rc 0 r0 x1 M = some res → AW u_Trip_hasTooLongDuty R_Trip_hasTooLongDuty 0 0 2 [(0, .ref r0), (1, .int x1)] [] M (fun r M2 => r = .inl (some (.int res)) ∧ M2 = M)) : ∀ (r0 : Nat) (x1 : Int32) (M : am_M), a_Trip_hasTooLongDuty_0 rc r0 x1 M = some res → AW u_Trip_hasTooLongDuty R_Trip_hasTooLongDuty 0 0 2 [(0, .ref r0), (1, .int x1)] [] M (fun r M2 => r = .inl (some (.int res)) ∧ M2 = M) := by
  intro r0 x1 M h
  unfold a_Trip_hasTooLongDuty_0 at h
  refine aw_iload_n d_Trip_hasTooLongDuty_2 rfl rfl ?_
  refine aw_aload_n d_Trip_hasTooLongDuty_3 rfl rfl ?_
  obtain ⟨t4, e_t4, h⟩ := q_bind h
  refine aw_gti d_Trip_hasTooLongDuty_4 fl_Trip_51 (Or.inl rfl) e_t4 ?_
  refine aw_icmp_ge (tgt := 31) d_Trip_hasTooLongDuty_7 (by decide) (fun hc => ?_) (fun hc => ?_)
  · rw [if_pos hc] at h
    refine aw_iconst (v := 0) d_Trip_hasTooLongDuty_31 (by decide) ?_
    cases h
    exact aw_zreturn d_Trip_hasTooLongDuty_32 rfl (by decide) (Nat.le_of_ble_eq_true rfl) (Nat.le_of_ble_eq_true rfl) ⟨rfl, rfl⟩
  · rw [if_neg hc] at h
    refine aw_aload_n d_Trip_hasTooLongDuty_10 rfl rfl ?_
    refine aw_iload_n d_Trip_hasTooLongDuty_11 rfl rfl ?_
    obtain ⟨o12, e_o12, h⟩ := q_bind h
    obtain ⟨t12, e_t12, h⟩ := q_bind h
    refine aw_cV (v := (some (.int t12))) (As := [.int x1]) (rest := []) (st' := [.int t12]) d_Trip_hasTooLongDuty_12 kV_Trip_91 (q_ob_spec e_o12).1 (q_ob_spec e_o12).2 ⟨Nat.le_of_ble_eq_true rfl, Nat.le_of_ble_eq_true rfl, Nat.le_of_ble_eq_true rfl, Nat.le_of_ble_eq_true rfl⟩ rfl rfl (Nat.le_of_ble_eq_true rfl) rfl (mt_Trip_lengthOf e_t12) ?_
    refine aw_aload_n d_Trip_hasTooLongDuty_15 rfl rfl ?_
    refine aw_iload_n d_Trip_hasTooLongDuty_16 rfl rfl ?_
    obtain ⟨o17, e_o17, h⟩ := q_bind h
    obtain ⟨t17, e_t17, h⟩ := q_bind h
    refine aw_cV (v := (some (.int t17))) (As := [.int x1]) (rest := [.int t12]) (st' := [.int t17, .int t12]) d_Trip_hasTooLongDuty_17 kV_Trip_140 (q_ob_spec e_o17).1 (q_ob_spec e_o17).2 ⟨Nat.le_of_ble_eq_true rfl, Nat.le_of_ble_eq_true rfl, Nat.le_of_ble_eq_true rfl, Nat.le_of_ble_eq_true rfl⟩ rfl rfl (Nat.le_of_ble_eq_true rfl) rfl (mt_Trip_limitOf e_t17) ?_
    refine aw_icmp_le (tgt := 25) d_Trip_hasTooLongDuty_20 (by decide) (fun hc => ?_) (fun hc => ?_)
    · rw [if_pos hc] at h
      refine aw_iinc (v := (x1 + (1 : Int32))) (ls' := [(1, .int _), (0, .ref _)]) d_Trip_hasTooLongDuty_25 rfl rfl (Nat.le_of_ble_eq_true rfl) rfl ?_
      refine aw_goto (tgt := 2) d_Trip_hasTooLongDuty_28 (by decide) ?_
      exact aw_pick [1, 0] rfl (ih_0 _ _ _ h)
    · rw [if_neg hc] at h
      refine aw_iconst (v := 1) d_Trip_hasTooLongDuty_23 (by decide) ?_
      cases h
      exact aw_zreturn d_Trip_hasTooLongDuty_24 rfl (by decide) (Nat.le_of_ble_eq_true rfl) (Nat.le_of_ble_eq_true rfl) ⟨rfl, rfl⟩
theorem l_Trip_hasTooLongDuty {res : Int32} : ∀ F : Nat, (∀ (r0 : Nat) (x1 : Int32) (M : am_M), g_Trip_hasTooLongDuty F 0 r0 x1 M = some res → AW u_Trip_hasTooLongDuty R_Trip_hasTooLongDuty 0 0 2 [(0, .ref r0), (1, .int x1)] [] M (fun r M2 => r = .inl (some (.int res)) ∧ M2 = M)) := by
  intro F
  induction F with
  | zero => exact fun _ _ _  h => (by cases h)
  | succ F ih =>
    have ih0 := ih
    exact s_Trip_hasTooLongDuty_0 ih0
set_option maxHeartbeats 4000000 in
theorem mt_Trip_hasTooLongDuty {M : am_M} {a0 : Nat} {res : Int32} (h : f_Trip_hasTooLongDuty M a0 = some res) : AMet y_Trip_hasTooLongDuty u_Trip_hasTooLongDuty R_Trip_hasTooLongDuty [.ref a0] M (fun r M2 => r = .inl (some (.int res)) ∧ M2 = M) := by
  refine am_met (by decide +kernel) w_Trip_hasTooLongDuty rfl rfl (Nat.le_of_ble_eq_true rfl) ?_
  show AW u_Trip_hasTooLongDuty R_Trip_hasTooLongDuty 0 0 0 [(0, .ref a0)] [] M (fun r M2 => r = .inl (some (.int res)) ∧ M2 = M)
  have ih_0 := (l_Trip_hasTooLongDuty (res := res) 1000000000)
  unfold f_Trip_hasTooLongDuty at h
  unfold e_Trip_hasTooLongDuty at h
  generalize g_Trip_hasTooLongDuty 1000000000 = rc at h ih_0
  refine aw_iconst (v := 0) d_Trip_hasTooLongDuty_0 (by decide) ?_
  refine aw_istore_n (ls' := [(1, .int _), (0, .ref _)]) d_Trip_hasTooLongDuty_1 rfl (Nat.le_of_ble_eq_true rfl) rfl ?_
  exact aw_pick [1, 0] rfl (ih_0 _ _ _ h)
def y_Trip_lacksNightRest : MethodName := ⟨"CrewOffice$Trip", "lacksNightRest", "()Z"⟩
def u_Trip_lacksNightRest : am_U := ("CrewOffice$Trip", "lacksNightRest", prog_9_method_15_code, 3, (some .boolean), [])
def R_Trip_lacksNightRest : Room := { frames := 3, cells := 0, slots := 0, locals := 72 }
theorem d_Trip_lacksNightRest_0 : decode u_Trip_lacksNightRest.2.2.1 0 = .ok (.iconst 1, 1) := by decide +kernel
theorem d_Trip_lacksNightRest_1 : decode u_Trip_lacksNightRest.2.2.1 1 = .ok (.istore_n 1, 1) := by decide +kernel
theorem d_Trip_lacksNightRest_2 : decode u_Trip_lacksNightRest.2.2.1 2 = .ok (.iload_n 1, 1) := by decide +kernel
theorem d_Trip_lacksNightRest_3 : decode u_Trip_lacksNightRest.2.2.1 3 = .ok (.aload_n 0, 1) := by decide +kernel
theorem d_Trip_lacksNightRest_4 : decode u_Trip_lacksNightRest.2.2.1 4 = .ok (.getfield 51, 3) := by decide +kernel
theorem d_Trip_lacksNightRest_7 : decode u_Trip_lacksNightRest.2.2.1 7 = .ok (.if_icmp .ge 54, 3) := by decide +kernel
theorem d_Trip_lacksNightRest_10 : decode u_Trip_lacksNightRest.2.2.1 10 = .ok (.aload_n 0, 1) := by decide +kernel
theorem d_Trip_lacksNightRest_11 : decode u_Trip_lacksNightRest.2.2.1 11 = .ok (.getfield 28, 3) := by decide +kernel
theorem d_Trip_lacksNightRest_14 : decode u_Trip_lacksNightRest.2.2.1 14 = .ok (.getfield 143, 3) := by decide +kernel
theorem d_Trip_lacksNightRest_17 : decode u_Trip_lacksNightRest.2.2.1 17 = .ok (.aload_n 0, 1) := by decide +kernel
theorem d_Trip_lacksNightRest_18 : decode u_Trip_lacksNightRest.2.2.1 18 = .ok (.aload_n 0, 1) := by decide +kernel
theorem d_Trip_lacksNightRest_19 : decode u_Trip_lacksNightRest.2.2.1 19 = .ok (.getfield 18, 3) := by decide +kernel
theorem d_Trip_lacksNightRest_22 : decode u_Trip_lacksNightRest.2.2.1 22 = .ok (.iload_n 1, 1) := by decide +kernel
theorem d_Trip_lacksNightRest_23 : decode u_Trip_lacksNightRest.2.2.1 23 = .ok (.iaload, 1) := by decide +kernel
theorem d_Trip_lacksNightRest_24 : decode u_Trip_lacksNightRest.2.2.1 24 = .ok (.invokevirtual 63, 3) := by decide +kernel
theorem d_Trip_lacksNightRest_27 : decode u_Trip_lacksNightRest.2.2.1 27 = .ok (.getfield 79, 3) := by decide +kernel
theorem d_Trip_lacksNightRest_30 : decode u_Trip_lacksNightRest.2.2.1 30 = .ok (.aaload, 1) := by decide +kernel
theorem d_Trip_lacksNightRest_31 : decode u_Trip_lacksNightRest.2.2.1 31 = .ok (.astore_n 2, 1) := by decide +kernel
theorem d_Trip_lacksNightRest_32 : decode u_Trip_lacksNightRest.2.2.1 32 = .ok (.aload_n 2, 1) := by decide +kernel
theorem d_Trip_lacksNightRest_33 : decode u_Trip_lacksNightRest.2.2.1 33 = .ok (.aload_n 0, 1) := by decide +kernel
theorem d_Trip_lacksNightRest_34 : decode u_Trip_lacksNightRest.2.2.1 34 = .ok (.getfield 25, 3) := by decide +kernel
theorem d_Trip_lacksNightRest_37 : decode u_Trip_lacksNightRest.2.2.1 37 = .ok (.iload_n 1, 1) := by decide +kernel
theorem d_Trip_lacksNightRest_38 : decode u_Trip_lacksNightRest.2.2.1 38 = .ok (.iconst 1, 1) := by decide +kernel
theorem d_Trip_lacksNightRest_39 : decode u_Trip_lacksNightRest.2.2.1 39 = .ok (.isub, 1) := by decide +kernel
theorem d_Trip_lacksNightRest_40 : decode u_Trip_lacksNightRest.2.2.1 40 = .ok (.iaload, 1) := by decide +kernel
theorem d_Trip_lacksNightRest_41 : decode u_Trip_lacksNightRest.2.2.1 41 = .ok (.aload_n 0, 1) := by decide +kernel
theorem d_Trip_lacksNightRest_42 : decode u_Trip_lacksNightRest.2.2.1 42 = .ok (.getfield 22, 3) := by decide +kernel
theorem d_Trip_lacksNightRest_45 : decode u_Trip_lacksNightRest.2.2.1 45 = .ok (.iload_n 1, 1) := by decide +kernel
theorem d_Trip_lacksNightRest_46 : decode u_Trip_lacksNightRest.2.2.1 46 = .ok (.iaload, 1) := by decide +kernel
theorem d_Trip_lacksNightRest_47 : decode u_Trip_lacksNightRest.2.2.1 47 = .ok (.invokevirtual 159, 3) := by decide +kernel
theorem d_Trip_lacksNightRest_50 : decode u_Trip_lacksNightRest.2.2.1 50 = .ok (.ifCond .ne 5, 3) := by decide +kernel
theorem d_Trip_lacksNightRest_53 : decode u_Trip_lacksNightRest.2.2.1 53 = .ok (.iconst 1, 1) := by decide +kernel
theorem d_Trip_lacksNightRest_54 : decode u_Trip_lacksNightRest.2.2.1 54 = .ok (.ireturn, 1) := by decide +kernel
theorem d_Trip_lacksNightRest_55 : decode u_Trip_lacksNightRest.2.2.1 55 = .ok (.iinc 1 1, 3) := by decide +kernel
theorem d_Trip_lacksNightRest_58 : decode u_Trip_lacksNightRest.2.2.1 58 = .ok (.goto (-56), 3) := by decide +kernel
theorem d_Trip_lacksNightRest_61 : decode u_Trip_lacksNightRest.2.2.1 61 = .ok (.iconst 0, 1) := by decide +kernel
theorem d_Trip_lacksNightRest_62 : decode u_Trip_lacksNightRest.2.2.1 62 = .ok (.ireturn, 1) := by decide +kernel
theorem w_Trip_lacksNightRest : am_code y_Trip_lacksNightRest u_Trip_lacksNightRest ∈ am_ws := am_mem (List.mem_of_getElem? (i := 556) (by decide +kernel)) rfl
def a_Trip_lacksNightRest_0 (rc : Nat → Nat → Int32 → am_M → Option (Int32)) (r0 : Nat) (x1 : Int32) (M : am_M) : Option (Int32) := (q_gti M r0 5 2).bind (fun t4 => if t4 ≤ x1 then (some (0 : Int32)) else ((q_gtr M r0 5 0).bind (fun t11 => (q_gtr M t11 3 0).bind (fun t14 => (q_gtr M r0 5 3).bind (fun t19 => (q_ldi M t19 x1).bind (fun t23 => (q_ob M r0 5).bind (fun o24 => (f_Trip_legAt M r0 t23).bind (fun t24 => (q_gti M t24 1 1).bind (fun t27 => (q_ldr M t14 t27).bind (fun t30 => (q_gtr M r0 5 5).bind (fun t34 => (q_ldi M t34 (x1 - (1 : Int32))).bind (fun t40 => (q_gtr M r0 5 4).bind (fun t42 => (q_ldi M t42 x1).bind (fun t46 => (q_ob M t30 0).bind (fun o47 => (f_Clock_hasNightRest M t30 t40 t46).bind (fun t47 => if t47 = 0 then (some (1 : Int32)) else (rc 0 r0 (x1 + (1 : Int32)) M)))))))))))))))))
def g_Trip_lacksNightRest : Nat → Nat → Nat → Int32 → am_M → Option (Int32)
  | 0, _, _, _, _ => none
  | F + 1, 0, r0, x1, M => a_Trip_lacksNightRest_0 (g_Trip_lacksNightRest F) r0 x1 M
  | _ + 1, _ + 1, _, _, _ => none
def e_Trip_lacksNightRest (rc : Nat → Nat → Int32 → am_M → Option (Int32)) (M : am_M) (a0 : Nat) : Option (Int32) := rc 0 a0 (1 : Int32) M
def f_Trip_lacksNightRest (M : am_M) (a0 : Nat) : Option (Int32) := e_Trip_lacksNightRest (g_Trip_lacksNightRest 1000000000) M a0
theorem kV_Trip_159 : am_kV "CrewOffice$Trip" 159 0 y_Clock_hasNightRest u_Clock_hasNightRest 2 := ⟨List.mem_of_getElem? (i := 557) (by decide +kernel), ⟨List.mem_of_getElem? (i := 558) (by decide +kernel), List.mem_of_getElem? (i := 559) (by decide +kernel)⟩, List.mem_of_getElem? (i := 56) (by decide +kernel), w_Clock_hasNightRest, ⟨⟨by decide +kernel, by decide +kernel⟩, by decide +kernel⟩⟩
set_option maxHeartbeats 4000000 in
theorem s_Trip_lacksNightRest_0 {rc : Nat → Nat → Int32 → am_M → Option (Int32)} {res : Int32} (ih_0 : ∀ (r0 : Nat) (x1 : Int32) (M : am_M), rc 0 r0 x1 M = some res → AW u_Trip_lacksNightRest R_Trip_lacksNightRest 0 0 2 [(0, .ref r0), (1, .int x1)] [] M (fun r M2 => r = .inl (some (.int res)) ∧ M2 = M)) : ∀ (r0 : Nat) (x1 : Int32) (M : am_M), a_Trip_lacksNightRest_0 rc r0 x1 M = some res → AW u_Trip_lacksNightRest R_Trip_lacksNightRest 0 0 2 [(0, .ref r0), (1, .int x1)] [] M (fun r M2 => r = .inl (some (.int res)) ∧ M2 = M) := by
  intro r0 x1 M h
  unfold a_Trip_lacksNightRest_0 at h
  refine aw_iload_n d_Trip_lacksNightRest_2 rfl rfl ?_
  refine aw_aload_n d_Trip_lacksNightRest_3 rfl rfl ?_
  obtain ⟨t4, e_t4, h⟩ := q_bind h
  refine aw_gti d_Trip_lacksNightRest_4 fl_Trip_51 (Or.inl rfl) e_t4 ?_
  refine aw_icmp_ge (tgt := 61) d_Trip_lacksNightRest_7 (by decide) (fun hc => ?_) (fun hc => ?_)
  · rw [if_pos hc] at h
    refine aw_iconst (v := 0) d_Trip_lacksNightRest_61 (by decide) ?_
    cases h
    exact aw_zreturn d_Trip_lacksNightRest_62 rfl (by decide) (Nat.le_of_ble_eq_true rfl) (Nat.le_of_ble_eq_true rfl) ⟨rfl, rfl⟩
  · rw [if_neg hc] at h
    refine aw_aload_n d_Trip_lacksNightRest_10 rfl rfl ?_
    obtain ⟨t11, e_t11, h⟩ := q_bind h
    refine aw_gtr d_Trip_lacksNightRest_11 fl_Trip_28 (Or.inl ⟨_, rfl⟩) e_t11 ?_
    obtain ⟨t14, e_t14, h⟩ := q_bind h
    refine aw_gtr d_Trip_lacksNightRest_14 fl_Trip_143 (Or.inr ⟨_, rfl⟩) e_t14 ?_
    refine aw_aload_n d_Trip_lacksNightRest_17 rfl rfl ?_
    refine aw_aload_n d_Trip_lacksNightRest_18 rfl rfl ?_
    obtain ⟨t19, e_t19, h⟩ := q_bind h
    refine aw_gtr d_Trip_lacksNightRest_19 fl_Trip_18 (Or.inr ⟨_, rfl⟩) e_t19 ?_
    refine aw_iload_n d_Trip_lacksNightRest_22 rfl rfl ?_
    obtain ⟨t23, e_t23, h⟩ := q_bind h
    refine aw_ldi d_Trip_lacksNightRest_23 e_t23 ?_
    obtain ⟨o24, e_o24, h⟩ := q_bind h
    obtain ⟨t24, e_t24, h⟩ := q_bind h
    refine aw_cV (v := (some (.ref t24))) (As := [.int t23]) (rest := [.ref t14]) (st' := [.ref t24, .ref t14]) d_Trip_lacksNightRest_24 kV_Trip_63 (q_ob_spec e_o24).1 (q_ob_spec e_o24).2 ⟨Nat.le_of_ble_eq_true rfl, Nat.le_of_ble_eq_true rfl, Nat.le_of_ble_eq_true rfl, Nat.le_of_ble_eq_true rfl⟩ rfl rfl (Nat.le_of_ble_eq_true rfl) rfl (mt_Trip_legAt e_t24) ?_
    obtain ⟨t27, e_t27, h⟩ := q_bind h
    refine aw_gti d_Trip_lacksNightRest_27 fl_Trip_79 (Or.inl rfl) e_t27 ?_
    obtain ⟨t30, e_t30, h⟩ := q_bind h
    refine aw_ldr d_Trip_lacksNightRest_30 e_t30 ?_
    refine aw_astore_n (ls' := [(2, .ref _), (0, .ref _), (1, .int _)]) d_Trip_lacksNightRest_31 rfl (Nat.le_of_ble_eq_true rfl) rfl ?_
    refine aw_aload_n d_Trip_lacksNightRest_32 rfl rfl ?_
    refine aw_aload_n d_Trip_lacksNightRest_33 rfl rfl ?_
    obtain ⟨t34, e_t34, h⟩ := q_bind h
    refine aw_gtr d_Trip_lacksNightRest_34 fl_Trip_25 (Or.inr ⟨_, rfl⟩) e_t34 ?_
    refine aw_iload_n d_Trip_lacksNightRest_37 rfl rfl ?_
    refine aw_iconst (v := 1) d_Trip_lacksNightRest_38 (by decide) ?_
    refine aw_isub d_Trip_lacksNightRest_39 ?_
    obtain ⟨t40, e_t40, h⟩ := q_bind h
    refine aw_ldi d_Trip_lacksNightRest_40 e_t40 ?_
    refine aw_aload_n d_Trip_lacksNightRest_41 rfl rfl ?_
    obtain ⟨t42, e_t42, h⟩ := q_bind h
    refine aw_gtr d_Trip_lacksNightRest_42 fl_Trip_22 (Or.inr ⟨_, rfl⟩) e_t42 ?_
    refine aw_iload_n d_Trip_lacksNightRest_45 rfl rfl ?_
    obtain ⟨t46, e_t46, h⟩ := q_bind h
    refine aw_ldi d_Trip_lacksNightRest_46 e_t46 ?_
    obtain ⟨o47, e_o47, h⟩ := q_bind h
    obtain ⟨t47, e_t47, h⟩ := q_bind h
    refine aw_cV (v := (some (.int t47))) (As := [.int t40, .int t46]) (rest := []) (st' := [.int t47]) d_Trip_lacksNightRest_47 kV_Trip_159 (q_ob_spec e_o47).1 (q_ob_spec e_o47).2 ⟨Nat.le_of_ble_eq_true rfl, Nat.le_of_ble_eq_true rfl, Nat.le_of_ble_eq_true rfl, Nat.le_of_ble_eq_true rfl⟩ rfl rfl (Nat.le_of_ble_eq_true rfl) rfl (mt_Clock_hasNightRest e_t47) ?_
    refine aw_if_ne (tgt := 55) d_Trip_lacksNightRest_50 (by decide) (fun hc => ?_) (fun hc => ?_)
    · rw [if_neg hc] at h
      refine aw_iinc (v := (x1 + (1 : Int32))) (ls' := [(1, .int _), (2, .ref _), (0, .ref _)]) d_Trip_lacksNightRest_55 rfl rfl (Nat.le_of_ble_eq_true rfl) rfl ?_
      refine aw_goto (tgt := 2) d_Trip_lacksNightRest_58 (by decide) ?_
      exact aw_pick [2, 0] rfl (ih_0 _ _ _ h)
    · rw [if_pos hc] at h
      refine aw_iconst (v := 1) d_Trip_lacksNightRest_53 (by decide) ?_
      cases h
      exact aw_zreturn d_Trip_lacksNightRest_54 rfl (by decide) (Nat.le_of_ble_eq_true rfl) (Nat.le_of_ble_eq_true rfl) ⟨rfl, rfl⟩
theorem l_Trip_lacksNightRest {res : Int32} : ∀ F : Nat, (∀ (r0 : Nat) (x1 : Int32) (M : am_M), g_Trip_lacksNightRest F 0 r0 x1 M = some res → AW u_Trip_lacksNightRest R_Trip_lacksNightRest 0 0 2 [(0, .ref r0), (1, .int x1)] [] M (fun r M2 => r = .inl (some (.int res)) ∧ M2 = M)) := by
  intro F
  induction F with
  | zero => exact fun _ _ _  h => (by cases h)
  | succ F ih =>
    have ih0 := ih
    exact s_Trip_lacksNightRest_0 ih0
set_option maxHeartbeats 4000000 in
theorem mt_Trip_lacksNightRest {M : am_M} {a0 : Nat} {res : Int32} (h : f_Trip_lacksNightRest M a0 = some res) : AMet y_Trip_lacksNightRest u_Trip_lacksNightRest R_Trip_lacksNightRest [.ref a0] M (fun r M2 => r = .inl (some (.int res)) ∧ M2 = M) := by
  refine am_met (by decide +kernel) w_Trip_lacksNightRest rfl rfl (Nat.le_of_ble_eq_true rfl) ?_
  show AW u_Trip_lacksNightRest R_Trip_lacksNightRest 0 0 0 [(0, .ref a0)] [] M (fun r M2 => r = .inl (some (.int res)) ∧ M2 = M)
  have ih_0 := (l_Trip_lacksNightRest (res := res) 1000000000)
  unfold f_Trip_lacksNightRest at h
  unfold e_Trip_lacksNightRest at h
  generalize g_Trip_lacksNightRest 1000000000 = rc at h ih_0
  refine aw_iconst (v := 1) d_Trip_lacksNightRest_0 (by decide) ?_
  refine aw_istore_n (ls' := [(1, .int _), (0, .ref _)]) d_Trip_lacksNightRest_1 rfl (Nat.le_of_ble_eq_true rfl) rfl ?_
  exact aw_pick [1, 0] rfl (ih_0 _ _ _ h)
def y_Office_zone : MethodName := ⟨"CrewOffice", "zone", "(IIII)V"⟩
def u_Office_zone : am_U := ("CrewOffice", "zone", prog_1_method_2_code, 5, none, [])
def R_Office_zone : Room := { frames := 9, cells := 4, slots := 24, locals := 220 }
theorem d_Office_zone_0 : decode u_Office_zone.2.2.1 0 = .ok (.iload_n 1, 1) := by decide +kernel
theorem d_Office_zone_1 : decode u_Office_zone.2.2.1 1 = .ok (.iconst 0, 1) := by decide +kernel
theorem d_Office_zone_2 : decode u_Office_zone.2.2.1 2 = .ok (.iconst 4, 1) := by decide +kernel
theorem d_Office_zone_3 : decode u_Office_zone.2.2.1 3 = .ok (.invokestatic 50, 3) := by decide +kernel
theorem d_Office_zone_6 : decode u_Office_zone.2.2.1 6 = .ok (.invokestatic 54, 3) := by decide +kernel
theorem d_Office_zone_9 : decode u_Office_zone.2.2.1 9 = .ok (.iload_n 2, 1) := by decide +kernel
theorem d_Office_zone_10 : decode u_Office_zone.2.2.1 10 = .ok (.sipush (-720), 3) := by decide +kernel
theorem d_Office_zone_13 : decode u_Office_zone.2.2.1 13 = .ok (.sipush 720, 3) := by decide +kernel
theorem d_Office_zone_16 : decode u_Office_zone.2.2.1 16 = .ok (.invokestatic 50, 3) := by decide +kernel
theorem d_Office_zone_19 : decode u_Office_zone.2.2.1 19 = .ok (.invokestatic 54, 3) := by decide +kernel
theorem d_Office_zone_22 : decode u_Office_zone.2.2.1 22 = .ok (.iload 4, 2) := by decide +kernel
theorem d_Office_zone_24 : decode u_Office_zone.2.2.1 24 = .ok (.sipush (-720), 3) := by decide +kernel
theorem d_Office_zone_27 : decode u_Office_zone.2.2.1 27 = .ok (.sipush 720, 3) := by decide +kernel
theorem d_Office_zone_30 : decode u_Office_zone.2.2.1 30 = .ok (.invokestatic 50, 3) := by decide +kernel
theorem d_Office_zone_33 : decode u_Office_zone.2.2.1 33 = .ok (.invokestatic 54, 3) := by decide +kernel
theorem d_Office_zone_36 : decode u_Office_zone.2.2.1 36 = .ok (.iload_n 3, 1) := by decide +kernel
theorem d_Office_zone_37 : decode u_Office_zone.2.2.1 37 = .ok (.iconst 0, 1) := by decide +kernel
theorem d_Office_zone_38 : decode u_Office_zone.2.2.1 38 = .ok (.sipush 20160, 3) := by decide +kernel
theorem d_Office_zone_41 : decode u_Office_zone.2.2.1 41 = .ok (.invokestatic 50, 3) := by decide +kernel
theorem d_Office_zone_44 : decode u_Office_zone.2.2.1 44 = .ok (.invokestatic 54, 3) := by decide +kernel
theorem d_Office_zone_47 : decode u_Office_zone.2.2.1 47 = .ok (.aload_n 0, 1) := by decide +kernel
theorem d_Office_zone_48 : decode u_Office_zone.2.2.1 48 = .ok (.getfield 10, 3) := by decide +kernel
theorem d_Office_zone_51 : decode u_Office_zone.2.2.1 51 = .ok (.getfield 58, 3) := by decide +kernel
theorem d_Office_zone_54 : decode u_Office_zone.2.2.1 54 = .ok (.iload_n 1, 1) := by decide +kernel
theorem d_Office_zone_55 : decode u_Office_zone.2.2.1 55 = .ok (.aaload, 1) := by decide +kernel
theorem d_Office_zone_56 : decode u_Office_zone.2.2.1 56 = .ok (.iload_n 2, 1) := by decide +kernel
theorem d_Office_zone_57 : decode u_Office_zone.2.2.1 57 = .ok (.iload_n 3, 1) := by decide +kernel
theorem d_Office_zone_58 : decode u_Office_zone.2.2.1 58 = .ok (.iload 4, 2) := by decide +kernel
theorem d_Office_zone_60 : decode u_Office_zone.2.2.1 60 = .ok (.invokevirtual 62, 3) := by decide +kernel
theorem d_Office_zone_63 : decode u_Office_zone.2.2.1 63 = .ok (.aload_n 0, 1) := by decide +kernel
theorem d_Office_zone_64 : decode u_Office_zone.2.2.1 64 = .ok (.invokevirtual 68, 3) := by decide +kernel
theorem d_Office_zone_67 : decode u_Office_zone.2.2.1 67 = .ok (.return_, 1) := by decide +kernel
theorem w_Office_zone : am_code y_Office_zone u_Office_zone ∈ am_ws := am_mem (List.mem_of_getElem? (i := 634) (by decide +kernel)) rfl
def e_Office_zone (M : am_M) (a0 : Nat) (a1 : Int32) (a2 : Int32) (a3 : Int32) (a4 : Int32) : Option ((Unit ⊕ Nat) × am_M) := (f_Office_isWithin M a1 (0 : Int32) (4 : Int32)).bind (fun t3 => (f_Office_needArgument M t3).bind (fun p6 => q_try p6 (fun _ M6 => (f_Office_isWithin M6 a2 (-720 : Int32) (720 : Int32)).bind (fun t16 => (f_Office_needArgument M6 t16).bind (fun p19 => q_try p19 (fun _ M19 => (f_Office_isWithin M19 a4 (-720 : Int32) (720 : Int32)).bind (fun t30 => (f_Office_needArgument M19 t30).bind (fun p33 => q_try p33 (fun _ M33 => (f_Office_isWithin M33 a3 (0 : Int32) (20160 : Int32)).bind (fun t41 => (f_Office_needArgument M33 t41).bind (fun p44 => q_try p44 (fun _ M44 => (q_gtr M44 a0 9 0).bind (fun t48 => (q_gtr M44 t48 3 0).bind (fun t51 => (q_ldr M44 t51 a1).bind (fun t55 => (q_ob M44 t55 0).bind (fun o60 => (f_Clock_set M44 t55 a2 a3 a4).bind (fun p60 => (q_ob p60.2 a0 9).bind (fun o64 => (f_Office_forgetPairings p60.2 a0).bind (fun p64 => some (.inl (), p64.2))))))))))))))))))))
def f_Office_zone (M : am_M) (a0 : Nat) (a1 : Int32) (a2 : Int32) (a3 : Int32) (a4 : Int32) : Option ((Unit ⊕ Nat) × am_M) := e_Office_zone M a0 a1 a2 a3 a4
theorem kV_Office_62 : am_kV "CrewOffice" 62 0 y_Clock_set u_Clock_set 3 := ⟨List.mem_of_getElem? (i := 709) (by decide +kernel), ⟨List.mem_of_getElem? (i := 710) (by decide +kernel), List.mem_of_getElem? (i := 711) (by decide +kernel)⟩, List.mem_of_getElem? (i := 56) (by decide +kernel), w_Clock_set, ⟨⟨by decide +kernel, by decide +kernel⟩, by decide +kernel⟩⟩
theorem kV_Office_68 : am_kV "CrewOffice" 68 9 y_Office_forgetPairings u_Office_forgetPairings 0 := ⟨List.mem_of_getElem? (i := 453) (by decide +kernel), ⟨List.mem_of_getElem? (i := 455) (by decide +kernel), List.mem_of_getElem? (i := 0) (by decide +kernel)⟩, List.mem_of_getElem? (i := 54) (by decide +kernel), w_Office_forgetPairings, ⟨⟨by decide +kernel, by decide +kernel⟩, by decide +kernel⟩⟩
set_option maxHeartbeats 4000000 in
theorem mt_Office_zone {M : am_M} {a0 : Nat} {a1 : Int32} {a2 : Int32} {a3 : Int32} {a4 : Int32} {res : Unit ⊕ Nat} {M' : am_M} (h : f_Office_zone M a0 a1 a2 a3 a4 = some (res, M')) : AMet y_Office_zone u_Office_zone R_Office_zone [.ref a0, .int a1, .int a2, .int a3, .int a4] M (fun r M2 => r = am_rU res ∧ M2 = M') := by
  refine am_met (by decide +kernel) w_Office_zone rfl rfl (Nat.le_of_ble_eq_true rfl) ?_
  show AW u_Office_zone R_Office_zone 0 0 0 [(0, .ref a0), (1, .int a1), (2, .int a2), (3, .int a3), (4, .int a4)] [] M (fun r M2 => r = am_rU res ∧ M2 = M')
  unfold f_Office_zone at h
  unfold e_Office_zone at h
  refine aw_iload_n d_Office_zone_0 rfl rfl ?_
  refine aw_iconst (v := 0) d_Office_zone_1 (by decide) ?_
  refine aw_iconst (v := 4) d_Office_zone_2 (by decide) ?_
  obtain ⟨t3, e_t3, h⟩ := q_bind h
  refine aw_cS (v := (some (.int t3))) (As := [.int a1, .int (0 : Int32), .int (4 : Int32)]) (rest := []) (st' := [.int t3]) d_Office_zone_3 kS_Office_50 ⟨Nat.le_of_ble_eq_true rfl, Nat.le_of_ble_eq_true rfl, Nat.le_of_ble_eq_true rfl, Nat.le_of_ble_eq_true rfl⟩ rfl rfl (Nat.le_of_ble_eq_true rfl) rfl (mt_Office_isWithin e_t3) ?_
  obtain ⟨⟨t6, M6⟩, e_t6, h⟩ := q_bind h
  cases t6 with
  | inr kx =>
    cases h
    exact aw_cSx (As := [.int t3]) (rest := []) d_Office_zone_6 kS_Office_54 ⟨Nat.le_of_ble_eq_true rfl, Nat.le_of_ble_eq_true rfl, Nat.le_of_ble_eq_true rfl, Nat.le_of_ble_eq_true rfl⟩ rfl rfl (Nat.le_of_ble_eq_true rfl) (mt_Office_needArgument e_t6) rfl ⟨rfl, rfl⟩
  | inl vx =>
    dsimp only [q_try] at h
    refine aw_cS (v := none) (As := [.int t3]) (rest := []) (st' := []) d_Office_zone_6 kS_Office_54 ⟨Nat.le_of_ble_eq_true rfl, Nat.le_of_ble_eq_true rfl, Nat.le_of_ble_eq_true rfl, Nat.le_of_ble_eq_true rfl⟩ rfl rfl (Nat.le_of_ble_eq_true rfl) rfl (mt_Office_needArgument e_t6) ?_
    refine aw_iload_n d_Office_zone_9 rfl rfl ?_
    refine aw_sipush (v := -720) d_Office_zone_10 (by decide) ?_
    refine aw_sipush (v := 720) d_Office_zone_13 (by decide) ?_
    obtain ⟨t16, e_t16, h⟩ := q_bind h
    refine aw_cS (v := (some (.int t16))) (As := [.int a2, .int (-720 : Int32), .int (720 : Int32)]) (rest := []) (st' := [.int t16]) d_Office_zone_16 kS_Office_50 ⟨Nat.le_of_ble_eq_true rfl, Nat.le_of_ble_eq_true rfl, Nat.le_of_ble_eq_true rfl, Nat.le_of_ble_eq_true rfl⟩ rfl rfl (Nat.le_of_ble_eq_true rfl) rfl (mt_Office_isWithin e_t16) ?_
    obtain ⟨⟨t19, M19⟩, e_t19, h⟩ := q_bind h
    cases t19 with
    | inr kx =>
      cases h
      exact aw_cSx (As := [.int t16]) (rest := []) d_Office_zone_19 kS_Office_54 ⟨Nat.le_of_ble_eq_true rfl, Nat.le_of_ble_eq_true rfl, Nat.le_of_ble_eq_true rfl, Nat.le_of_ble_eq_true rfl⟩ rfl rfl (Nat.le_of_ble_eq_true rfl) (mt_Office_needArgument e_t19) rfl ⟨rfl, rfl⟩
    | inl vx =>
      dsimp only [q_try] at h
      refine aw_cS (v := none) (As := [.int t16]) (rest := []) (st' := []) d_Office_zone_19 kS_Office_54 ⟨Nat.le_of_ble_eq_true rfl, Nat.le_of_ble_eq_true rfl, Nat.le_of_ble_eq_true rfl, Nat.le_of_ble_eq_true rfl⟩ rfl rfl (Nat.le_of_ble_eq_true rfl) rfl (mt_Office_needArgument e_t19) ?_
      refine aw_iload d_Office_zone_22 rfl ?_
      refine aw_sipush (v := -720) d_Office_zone_24 (by decide) ?_
      refine aw_sipush (v := 720) d_Office_zone_27 (by decide) ?_
      obtain ⟨t30, e_t30, h⟩ := q_bind h
      refine aw_cS (v := (some (.int t30))) (As := [.int a4, .int (-720 : Int32), .int (720 : Int32)]) (rest := []) (st' := [.int t30]) d_Office_zone_30 kS_Office_50 ⟨Nat.le_of_ble_eq_true rfl, Nat.le_of_ble_eq_true rfl, Nat.le_of_ble_eq_true rfl, Nat.le_of_ble_eq_true rfl⟩ rfl rfl (Nat.le_of_ble_eq_true rfl) rfl (mt_Office_isWithin e_t30) ?_
      obtain ⟨⟨t33, M33⟩, e_t33, h⟩ := q_bind h
      cases t33 with
      | inr kx =>
        cases h
        exact aw_cSx (As := [.int t30]) (rest := []) d_Office_zone_33 kS_Office_54 ⟨Nat.le_of_ble_eq_true rfl, Nat.le_of_ble_eq_true rfl, Nat.le_of_ble_eq_true rfl, Nat.le_of_ble_eq_true rfl⟩ rfl rfl (Nat.le_of_ble_eq_true rfl) (mt_Office_needArgument e_t33) rfl ⟨rfl, rfl⟩
      | inl vx =>
        dsimp only [q_try] at h
        refine aw_cS (v := none) (As := [.int t30]) (rest := []) (st' := []) d_Office_zone_33 kS_Office_54 ⟨Nat.le_of_ble_eq_true rfl, Nat.le_of_ble_eq_true rfl, Nat.le_of_ble_eq_true rfl, Nat.le_of_ble_eq_true rfl⟩ rfl rfl (Nat.le_of_ble_eq_true rfl) rfl (mt_Office_needArgument e_t33) ?_
        refine aw_iload_n d_Office_zone_36 rfl rfl ?_
        refine aw_iconst (v := 0) d_Office_zone_37 (by decide) ?_
        refine aw_sipush (v := 20160) d_Office_zone_38 (by decide) ?_
        obtain ⟨t41, e_t41, h⟩ := q_bind h
        refine aw_cS (v := (some (.int t41))) (As := [.int a3, .int (0 : Int32), .int (20160 : Int32)]) (rest := []) (st' := [.int t41]) d_Office_zone_41 kS_Office_50 ⟨Nat.le_of_ble_eq_true rfl, Nat.le_of_ble_eq_true rfl, Nat.le_of_ble_eq_true rfl, Nat.le_of_ble_eq_true rfl⟩ rfl rfl (Nat.le_of_ble_eq_true rfl) rfl (mt_Office_isWithin e_t41) ?_
        obtain ⟨⟨t44, M44⟩, e_t44, h⟩ := q_bind h
        cases t44 with
        | inr kx =>
          cases h
          exact aw_cSx (As := [.int t41]) (rest := []) d_Office_zone_44 kS_Office_54 ⟨Nat.le_of_ble_eq_true rfl, Nat.le_of_ble_eq_true rfl, Nat.le_of_ble_eq_true rfl, Nat.le_of_ble_eq_true rfl⟩ rfl rfl (Nat.le_of_ble_eq_true rfl) (mt_Office_needArgument e_t44) rfl ⟨rfl, rfl⟩
        | inl vx =>
          dsimp only [q_try] at h
          refine aw_cS (v := none) (As := [.int t41]) (rest := []) (st' := []) d_Office_zone_44 kS_Office_54 ⟨Nat.le_of_ble_eq_true rfl, Nat.le_of_ble_eq_true rfl, Nat.le_of_ble_eq_true rfl, Nat.le_of_ble_eq_true rfl⟩ rfl rfl (Nat.le_of_ble_eq_true rfl) rfl (mt_Office_needArgument e_t44) ?_
          refine aw_aload_n d_Office_zone_47 rfl rfl ?_
          obtain ⟨t48, e_t48, h⟩ := q_bind h
          refine aw_gtr d_Office_zone_48 fl_Office_10 (Or.inl ⟨_, rfl⟩) e_t48 ?_
          obtain ⟨t51, e_t51, h⟩ := q_bind h
          refine aw_gtr d_Office_zone_51 fl_Office_58 (Or.inr ⟨_, rfl⟩) e_t51 ?_
          refine aw_iload_n d_Office_zone_54 rfl rfl ?_
          obtain ⟨t55, e_t55, h⟩ := q_bind h
          refine aw_ldr d_Office_zone_55 e_t55 ?_
          refine aw_iload_n d_Office_zone_56 rfl rfl ?_
          refine aw_iload_n d_Office_zone_57 rfl rfl ?_
          refine aw_iload d_Office_zone_58 rfl ?_
          obtain ⟨o60, e_o60, h⟩ := q_bind h
          obtain ⟨⟨t60, M60⟩, e_t60, h⟩ := q_bind h
          dsimp only at h
          refine aw_cV (v := none) (As := [.int a2, .int a3, .int a4]) (rest := []) (st' := []) d_Office_zone_60 kV_Office_62 (q_ob_spec e_o60).1 (q_ob_spec e_o60).2 ⟨Nat.le_of_ble_eq_true rfl, Nat.le_of_ble_eq_true rfl, Nat.le_of_ble_eq_true rfl, Nat.le_of_ble_eq_true rfl⟩ rfl rfl (Nat.le_of_ble_eq_true rfl) rfl (mt_Clock_set e_t60) ?_
          refine aw_aload_n d_Office_zone_63 rfl rfl ?_
          obtain ⟨o64, e_o64, h⟩ := q_bind h
          obtain ⟨⟨t64, M64⟩, e_t64, h⟩ := q_bind h
          dsimp only at h
          refine aw_cV (v := none) (As := []) (rest := []) (st' := []) d_Office_zone_64 kV_Office_68 (q_ob_spec e_o64).1 (q_ob_spec e_o64).2 ⟨Nat.le_of_ble_eq_true rfl, Nat.le_of_ble_eq_true rfl, Nat.le_of_ble_eq_true rfl, Nat.le_of_ble_eq_true rfl⟩ rfl rfl (Nat.le_of_ble_eq_true rfl) rfl (mt_Office_forgetPairings e_t64) ?_
          cases h
          exact aw_vreturn d_Office_zone_67 rfl (Nat.le_of_ble_eq_true rfl) (Nat.le_of_ble_eq_true rfl) ⟨rfl, rfl⟩
