-- Model_owner Model_score Model_local Model_look Choice_forget Choice_priceOf Choice_bitOf Choice_cheapest Choice_take
def y_Model_owner : MethodName := ⟨"CrewOfficeModel", "owner", "(I)I"⟩
def u_Model_owner : am_U := ("CrewOfficeModel", "owner", prog_12_method_51_code, 2, (some .int), [])
def R_Model_owner : Room := { frames := 1, cells := 0, slots := 0, locals := 22 }
theorem d_Model_owner_0 : decode u_Model_owner.2.2.1 0 = .ok (.aload_n 0, 1) := by decide +kernel
theorem d_Model_owner_1 : decode u_Model_owner.2.2.1 1 = .ok (.iload_n 1, 1) := by decide +kernel
theorem d_Model_owner_2 : decode u_Model_owner.2.2.1 2 = .ok (.iconst 0, 1) := by decide +kernel
theorem d_Model_owner_3 : decode u_Model_owner.2.2.1 3 = .ok (.aload_n 0, 1) := by decide +kernel
theorem d_Model_owner_4 : decode u_Model_owner.2.2.1 4 = .ok (.getfield 102, 3) := by decide +kernel
theorem d_Model_owner_7 : decode u_Model_owner.2.2.1 7 = .ok (.iconst 1, 1) := by decide +kernel
theorem d_Model_owner_8 : decode u_Model_owner.2.2.1 8 = .ok (.isub, 1) := by decide +kernel
theorem d_Model_owner_9 : decode u_Model_owner.2.2.1 9 = .ok (.invokestatic 180, 3) := by decide +kernel
theorem d_Model_owner_12 : decode u_Model_owner.2.2.1 12 = .ok (.ifCond .ne 7, 3) := by decide +kernel
theorem d_Model_owner_15 : decode u_Model_owner.2.2.1 15 = .ok (.iconst 1, 1) := by decide +kernel
theorem d_Model_owner_16 : decode u_Model_owner.2.2.1 16 = .ok (.goto 4, 3) := by decide +kernel
theorem d_Model_owner_19 : decode u_Model_owner.2.2.1 19 = .ok (.iconst 0, 1) := by decide +kernel
theorem d_Model_owner_20 : decode u_Model_owner.2.2.1 20 = .ok (.iconst 1, 1) := by decide +kernel
theorem d_Model_owner_21 : decode u_Model_owner.2.2.1 21 = .ok (.invokevirtual 184, 3) := by decide +kernel
theorem d_Model_owner_24 : decode u_Model_owner.2.2.1 24 = .ok (.ifCond .eq 7, 3) := by decide +kernel
theorem d_Model_owner_27 : decode u_Model_owner.2.2.1 27 = .ok (.iconst 0, 1) := by decide +kernel
theorem d_Model_owner_28 : decode u_Model_owner.2.2.1 28 = .ok (.goto 9, 3) := by decide +kernel
theorem d_Model_owner_31 : decode u_Model_owner.2.2.1 31 = .ok (.aload_n 0, 1) := by decide +kernel
theorem d_Model_owner_32 : decode u_Model_owner.2.2.1 32 = .ok (.getfield 127, 3) := by decide +kernel
theorem d_Model_owner_35 : decode u_Model_owner.2.2.1 35 = .ok (.iload_n 1, 1) := by decide +kernel
theorem d_Model_owner_36 : decode u_Model_owner.2.2.1 36 = .ok (.iaload, 1) := by decide +kernel
theorem d_Model_owner_37 : decode u_Model_owner.2.2.1 37 = .ok (.ireturn, 1) := by decide +kernel
theorem w_Model_owner : am_code y_Model_owner u_Model_owner ∈ am_ws := am_mem (List.mem_of_getElem? (i := 1367) (by decide +kernel)) rfl
def a_Model_owner_0 (rc : Nat → Nat → Int32 → Int32 → Nat → am_M → Option (Int32 × am_M)) (r0 : Nat) (x1 : Int32) (s0 : Int32) (sr1 : Nat) (M : am_M) : Option (Int32 × am_M) := (q_ob M sr1 10).bind (fun o21 => (f_Model_fails M sr1 s0 (1 : Int32)).bind (fun p21 => if p21.1 = 0 then ((q_gtr p21.2 r0 10 43).bind (fun t32 => (q_ldi p21.2 t32 x1).bind (fun t36 => some (t36, p21.2)))) else (some ((0 : Int32), p21.2))))
def g_Model_owner : Nat → Nat → Nat → Int32 → Int32 → Nat → am_M → Option (Int32 × am_M)
  | 0, _, _, _, _, _, _ => none
  | F + 1, 0, r0, x1, s0, sr1, M => a_Model_owner_0 (g_Model_owner F) r0 x1 s0 sr1 M
  | _ + 1, _ + 1, _, _, _, _, _ => none
def e_Model_owner (rc : Nat → Nat → Int32 → Int32 → Nat → am_M → Option (Int32 × am_M)) (M : am_M) (a0 : Nat) (a1 : Int32) : Option (Int32 × am_M) := (q_gti M a0 10 34).bind (fun t4 => (f_Model_within M a1 (0 : Int32) (t4 - (1 : Int32))).bind (fun t9 => if t9 = 0 then (rc 0 a0 a1 (1 : Int32) a0 M) else (rc 0 a0 a1 (0 : Int32) a0 M)))
def f_Model_owner (M : am_M) (a0 : Nat) (a1 : Int32) : Option (Int32 × am_M) := e_Model_owner (g_Model_owner 1000000000) M a0 a1
set_option maxHeartbeats 4000000 in
theorem s_Model_owner_0 {rc : Nat → Nat → Int32 → Int32 → Nat → am_M → Option (Int32 × am_M)} {res : Int32} {M' : am_M} (ih_0 : ∀ (r0 : Nat) (x1 : Int32) (s0 : Int32) (sr1 : Nat) (M : am_M), rc 0 r0 x1 s0 sr1 M = some (res, M') → AW u_Model_owner R_Model_owner 0 0 20 [(0, .ref r0), (1, .int x1)] [.int s0, .ref sr1] M (fun r M2 => r = .inl (some (.int res)) ∧ M2 = M')) : ∀ (r0 : Nat) (x1 : Int32) (s0 : Int32) (sr1 : Nat) (M : am_M), a_Model_owner_0 rc r0 x1 s0 sr1 M = some (res, M') → AW u_Model_owner R_Model_owner 0 0 20 [(0, .ref r0), (1, .int x1)] [.int s0, .ref sr1] M (fun r M2 => r = .inl (some (.int res)) ∧ M2 = M') := by
  intro r0 x1 s0 sr1 M h
  unfold a_Model_owner_0 at h
  refine aw_iconst (v := 1) d_Model_owner_20 (by decide) ?_
  obtain ⟨o21, e_o21, h⟩ := q_bind h
  obtain ⟨⟨t21, M21⟩, e_t21, h⟩ := q_bind h
  dsimp only at h
  refine aw_cV (v := (some (.int t21))) (As := [.int s0, .int (1 : Int32)]) (rest := []) (st' := [.int t21]) d_Model_owner_21 kV_Model_184 (q_ob_spec e_o21).1 (q_ob_spec e_o21).2 ⟨Nat.le_of_ble_eq_true rfl, Nat.le_of_ble_eq_true rfl, Nat.le_of_ble_eq_true rfl, Nat.le_of_ble_eq_true rfl⟩ rfl rfl (Nat.le_of_ble_eq_true rfl) rfl (mt_Model_fails e_t21) ?_
  refine aw_if_eq (tgt := 31) d_Model_owner_24 (by decide) (fun hc => ?_) (fun hc => ?_)
  · rw [if_pos hc] at h
    refine aw_aload_n d_Model_owner_31 rfl rfl ?_
    obtain ⟨t32, e_t32, h⟩ := q_bind h
    refine aw_gtr d_Model_owner_32 fl_Model_127 (Or.inr ⟨_, rfl⟩) e_t32 ?_
    refine aw_iload_n d_Model_owner_35 rfl rfl ?_
    obtain ⟨t36, e_t36, h⟩ := q_bind h
    refine aw_ldi d_Model_owner_36 e_t36 ?_
    cases h
    exact aw_ireturn d_Model_owner_37 rfl (Nat.le_of_ble_eq_true rfl) (Nat.le_of_ble_eq_true rfl) ⟨rfl, rfl⟩
  · rw [if_neg hc] at h
    refine aw_iconst (v := 0) d_Model_owner_27 (by decide) ?_
    refine aw_goto (tgt := 37) d_Model_owner_28 (by decide) ?_
    cases h
    exact aw_ireturn d_Model_owner_37 rfl (Nat.le_of_ble_eq_true rfl) (Nat.le_of_ble_eq_true rfl) ⟨rfl, rfl⟩
theorem l_Model_owner {res : Int32} {M' : am_M} : ∀ F : Nat, (∀ (r0 : Nat) (x1 : Int32) (s0 : Int32) (sr1 : Nat) (M : am_M), g_Model_owner F 0 r0 x1 s0 sr1 M = some (res, M') → AW u_Model_owner R_Model_owner 0 0 20 [(0, .ref r0), (1, .int x1)] [.int s0, .ref sr1] M (fun r M2 => r = .inl (some (.int res)) ∧ M2 = M')) := by
  intro F
  induction F with
  | zero => exact fun _ _ _ _ _  h => (by cases h)
  | succ F ih =>
    have ih0 := ih
    exact s_Model_owner_0 ih0
set_option maxHeartbeats 4000000 in
theorem mt_Model_owner {M : am_M} {a0 : Nat} {a1 : Int32} {res : Int32} {M' : am_M} (h : f_Model_owner M a0 a1 = some (res, M')) : AMet y_Model_owner u_Model_owner R_Model_owner [.ref a0, .int a1] M (fun r M2 => r = .inl (some (.int res)) ∧ M2 = M') := by
  refine am_met (by decide +kernel) w_Model_owner rfl rfl (Nat.le_of_ble_eq_true rfl) ?_
  show AW u_Model_owner R_Model_owner 0 0 0 [(0, .ref a0), (1, .int a1)] [] M (fun r M2 => r = .inl (some (.int res)) ∧ M2 = M')
  have ih_0 := (l_Model_owner (res := res) (M' := M') 1000000000)
  unfold f_Model_owner at h
  unfold e_Model_owner at h
  generalize g_Model_owner 1000000000 = rc at h ih_0
  refine aw_aload_n d_Model_owner_0 rfl rfl ?_
  refine aw_iload_n d_Model_owner_1 rfl rfl ?_
  refine aw_iconst (v := 0) d_Model_owner_2 (by decide) ?_
  refine aw_aload_n d_Model_owner_3 rfl rfl ?_
  obtain ⟨t4, e_t4, h⟩ := q_bind h
  refine aw_gti d_Model_owner_4 fl_Model_102 (Or.inl rfl) e_t4 ?_
  refine aw_iconst (v := 1) d_Model_owner_7 (by decide) ?_
  refine aw_isub d_Model_owner_8 ?_
  obtain ⟨t9, e_t9, h⟩ := q_bind h
  refine aw_cS (v := (some (.int t9))) (As := [.int a1, .int (0 : Int32), .int (t4 - (1 : Int32))]) (rest := [.ref a0]) (st' := [.int t9, .ref a0]) d_Model_owner_9 kS_Model_180 ⟨Nat.le_of_ble_eq_true rfl, Nat.le_of_ble_eq_true rfl, Nat.le_of_ble_eq_true rfl, Nat.le_of_ble_eq_true rfl⟩ rfl rfl (Nat.le_of_ble_eq_true rfl) rfl (mt_Model_within e_t9) ?_
  refine aw_if_ne (tgt := 19) d_Model_owner_12 (by decide) (fun hc => ?_) (fun hc => ?_)
  · rw [if_neg hc] at h
    refine aw_iconst (v := 0) d_Model_owner_19 (by decide) ?_
    exact aw_pick [0, 1] rfl (ih_0 _ _ _ _ _ h)
  · rw [if_pos hc] at h
    refine aw_iconst (v := 1) d_Model_owner_15 (by decide) ?_
    refine aw_goto (tgt := 20) d_Model_owner_16 (by decide) ?_
    exact aw_pick [0, 1] rfl (ih_0 _ _ _ _ _ h)
def y_Model_score : MethodName := ⟨"CrewOfficeModel", "score", "(I)I"⟩
def u_Model_score : am_U := ("CrewOfficeModel", "score", prog_12_method_52_code, 2, (some .int), [])
def R_Model_score : Room := { frames := 2, cells := 0, slots := 0, locals := 49 }
theorem d_Model_score_0 : decode u_Model_score.2.2.1 0 = .ok (.aload_n 0, 1) := by decide +kernel
theorem d_Model_score_1 : decode u_Model_score.2.2.1 1 = .ok (.iload_n 1, 1) := by decide +kernel
theorem d_Model_score_2 : decode u_Model_score.2.2.1 2 = .ok (.iconst 0, 1) := by decide +kernel
theorem d_Model_score_3 : decode u_Model_score.2.2.1 3 = .ok (.iconst 3, 1) := by decide +kernel
theorem d_Model_score_4 : decode u_Model_score.2.2.1 4 = .ok (.invokestatic 180, 3) := by decide +kernel
theorem d_Model_score_7 : decode u_Model_score.2.2.1 7 = .ok (.ifCond .ne 7, 3) := by decide +kernel
theorem d_Model_score_10 : decode u_Model_score.2.2.1 10 = .ok (.iconst 1, 1) := by decide +kernel
theorem d_Model_score_11 : decode u_Model_score.2.2.1 11 = .ok (.goto 4, 3) := by decide +kernel
theorem d_Model_score_14 : decode u_Model_score.2.2.1 14 = .ok (.iconst 0, 1) := by decide +kernel
theorem d_Model_score_15 : decode u_Model_score.2.2.1 15 = .ok (.iconst 1, 1) := by decide +kernel
theorem d_Model_score_16 : decode u_Model_score.2.2.1 16 = .ok (.invokevirtual 184, 3) := by decide +kernel
theorem d_Model_score_19 : decode u_Model_score.2.2.1 19 = .ok (.ifCond .ne 25, 3) := by decide +kernel
theorem d_Model_score_22 : decode u_Model_score.2.2.1 22 = .ok (.aload_n 0, 1) := by decide +kernel
theorem d_Model_score_23 : decode u_Model_score.2.2.1 23 = .ok (.aload_n 0, 1) := by decide +kernel
theorem d_Model_score_24 : decode u_Model_score.2.2.1 24 = .ok (.getfield 45, 3) := by decide +kernel
theorem d_Model_score_27 : decode u_Model_score.2.2.1 27 = .ok (.iload_n 1, 1) := by decide +kernel
theorem d_Model_score_28 : decode u_Model_score.2.2.1 28 = .ok (.baload, 1) := by decide +kernel
theorem d_Model_score_29 : decode u_Model_score.2.2.1 29 = .ok (.ifCond .ne 7, 3) := by decide +kernel
theorem d_Model_score_32 : decode u_Model_score.2.2.1 32 = .ok (.iconst 1, 1) := by decide +kernel
theorem d_Model_score_33 : decode u_Model_score.2.2.1 33 = .ok (.goto 4, 3) := by decide +kernel
theorem d_Model_score_36 : decode u_Model_score.2.2.1 36 = .ok (.iconst 0, 1) := by decide +kernel
theorem d_Model_score_37 : decode u_Model_score.2.2.1 37 = .ok (.iconst 2, 1) := by decide +kernel
theorem d_Model_score_38 : decode u_Model_score.2.2.1 38 = .ok (.invokevirtual 184, 3) := by decide +kernel
theorem d_Model_score_41 : decode u_Model_score.2.2.1 41 = .ok (.ifCond .eq 7, 3) := by decide +kernel
theorem d_Model_score_44 : decode u_Model_score.2.2.1 44 = .ok (.iconst 0, 1) := by decide +kernel
theorem d_Model_score_45 : decode u_Model_score.2.2.1 45 = .ok (.goto 8, 3) := by decide +kernel
theorem d_Model_score_48 : decode u_Model_score.2.2.1 48 = .ok (.aload_n 0, 1) := by decide +kernel
theorem d_Model_score_49 : decode u_Model_score.2.2.1 49 = .ok (.iload_n 1, 1) := by decide +kernel
theorem d_Model_score_50 : decode u_Model_score.2.2.1 50 = .ok (.invokevirtual 267, 3) := by decide +kernel
theorem d_Model_score_53 : decode u_Model_score.2.2.1 53 = .ok (.ireturn, 1) := by decide +kernel
theorem w_Model_score : am_code y_Model_score u_Model_score ∈ am_ws := am_mem (List.mem_of_getElem? (i := 1371) (by decide +kernel)) rfl
def a_Model_score_0 (rc : Nat → Nat → Int32 → Int32 → Nat → am_M → Option (Int32 × am_M)) (r0 : Nat) (x1 : Int32) (s0 : Int32) (sr1 : Nat) (M : am_M) : Option (Int32 × am_M) := (q_ob M sr1 10).bind (fun o16 => (f_Model_fails M sr1 s0 (1 : Int32)).bind (fun p16 => if p16.1 = 0 then ((q_gtr p16.2 r0 10 12).bind (fun t24 => (q_ldz p16.2 t24 x1).bind (fun t28 => if t28 = 0 then (rc 1 r0 x1 (1 : Int32) r0 p16.2) else (rc 1 r0 x1 (0 : Int32) r0 p16.2)))) else (rc 2 0 0 0 0 p16.2)))
def a_Model_score_1 (rc : Nat → Nat → Int32 → Int32 → Nat → am_M → Option (Int32 × am_M)) (r0 : Nat) (x1 : Int32) (s0 : Int32) (sr1 : Nat) (M : am_M) : Option (Int32 × am_M) := (q_ob M sr1 10).bind (fun o38 => (f_Model_fails M sr1 s0 (2 : Int32)).bind (fun p38 => if p38.1 = 0 then ((q_ob p38.2 r0 10).bind (fun o50 => (f_Model_scoreOf p38.2 r0 x1).bind (fun t50 => some (t50, p38.2)))) else (rc 2 0 0 0 0 p38.2)))
def a_Model_score_2 (rc : Nat → Nat → Int32 → Int32 → Nat → am_M → Option (Int32 × am_M)) (r0 : Nat) (x1 : Int32) (s0 : Int32) (sr1 : Nat) (M : am_M) : Option (Int32 × am_M) := some ((0 : Int32), M)
def g_Model_score : Nat → Nat → Nat → Int32 → Int32 → Nat → am_M → Option (Int32 × am_M)
  | 0, _, _, _, _, _, _ => none
  | F + 1, 0, r0, x1, s0, sr1, M => a_Model_score_0 (g_Model_score F) r0 x1 s0 sr1 M
  | F + 1, 1, r0, x1, s0, sr1, M => a_Model_score_1 (g_Model_score F) r0 x1 s0 sr1 M
  | F + 1, 2, r0, x1, s0, sr1, M => a_Model_score_2 (g_Model_score F) r0 x1 s0 sr1 M
  | _ + 1, _ + 3, _, _, _, _, _ => none
def e_Model_score (rc : Nat → Nat → Int32 → Int32 → Nat → am_M → Option (Int32 × am_M)) (M : am_M) (a0 : Nat) (a1 : Int32) : Option (Int32 × am_M) := (f_Model_within M a1 (0 : Int32) (3 : Int32)).bind (fun t4 => if t4 = 0 then (rc 0 a0 a1 (1 : Int32) a0 M) else (rc 0 a0 a1 (0 : Int32) a0 M))
def f_Model_score (M : am_M) (a0 : Nat) (a1 : Int32) : Option (Int32 × am_M) := e_Model_score (g_Model_score 1000000000) M a0 a1
set_option maxHeartbeats 4000000 in
theorem s_Model_score_0 {rc : Nat → Nat → Int32 → Int32 → Nat → am_M → Option (Int32 × am_M)} {res : Int32} {M' : am_M} (ih_0 : ∀ (r0 : Nat) (x1 : Int32) (s0 : Int32) (sr1 : Nat) (M : am_M), rc 0 r0 x1 s0 sr1 M = some (res, M') → AW u_Model_score R_Model_score 0 0 15 [(0, .ref r0), (1, .int x1)] [.int s0, .ref sr1] M (fun r M2 => r = .inl (some (.int res)) ∧ M2 = M')) (ih_1 : ∀ (r0 : Nat) (x1 : Int32) (s0 : Int32) (sr1 : Nat) (M : am_M), rc 1 r0 x1 s0 sr1 M = some (res, M') → AW u_Model_score R_Model_score 0 0 37 [(0, .ref r0), (1, .int x1)] [.int s0, .ref sr1] M (fun r M2 => r = .inl (some (.int res)) ∧ M2 = M')) (ih_2 : ∀ (r0 : Nat) (x1 : Int32) (s0 : Int32) (sr1 : Nat) (M : am_M), rc 2 r0 x1 s0 sr1 M = some (res, M') → AW u_Model_score R_Model_score 0 0 44 [] [] M (fun r M2 => r = .inl (some (.int res)) ∧ M2 = M')) : ∀ (r0 : Nat) (x1 : Int32) (s0 : Int32) (sr1 : Nat) (M : am_M), a_Model_score_0 rc r0 x1 s0 sr1 M = some (res, M') → AW u_Model_score R_Model_score 0 0 15 [(0, .ref r0), (1, .int x1)] [.int s0, .ref sr1] M (fun r M2 => r = .inl (some (.int res)) ∧ M2 = M') := by
  intro r0 x1 s0 sr1 M h
  unfold a_Model_score_0 at h
  refine aw_iconst (v := 1) d_Model_score_15 (by decide) ?_
  obtain ⟨o16, e_o16, h⟩ := q_bind h
  obtain ⟨⟨t16, M16⟩, e_t16, h⟩ := q_bind h
  dsimp only at h
  refine aw_cV (v := (some (.int t16))) (As := [.int s0, .int (1 : Int32)]) (rest := []) (st' := [.int t16]) d_Model_score_16 kV_Model_184 (q_ob_spec e_o16).1 (q_ob_spec e_o16).2 ⟨Nat.le_of_ble_eq_true rfl, Nat.le_of_ble_eq_true rfl, Nat.le_of_ble_eq_true rfl, Nat.le_of_ble_eq_true rfl⟩ rfl rfl (Nat.le_of_ble_eq_true rfl) rfl (mt_Model_fails e_t16) ?_
  refine aw_if_ne (tgt := 44) d_Model_score_19 (by decide) (fun hc => ?_) (fun hc => ?_)
  · rw [if_neg hc] at h
    exact aw_pick [] rfl (ih_2 _ _ _ _ _ h)
  · rw [if_pos hc] at h
    refine aw_aload_n d_Model_score_22 rfl rfl ?_
    refine aw_aload_n d_Model_score_23 rfl rfl ?_
    obtain ⟨t24, e_t24, h⟩ := q_bind h
    refine aw_gtr d_Model_score_24 fl_Model_45 (Or.inr ⟨_, rfl⟩) e_t24 ?_
    refine aw_iload_n d_Model_score_27 rfl rfl ?_
    obtain ⟨t28, e_t28, h⟩ := q_bind h
    refine aw_ldz d_Model_score_28 e_t28 ?_
    refine aw_if_ne (tgt := 36) d_Model_score_29 (by decide) (fun hc => ?_) (fun hc => ?_)
    · rw [if_neg hc] at h
      refine aw_iconst (v := 0) d_Model_score_36 (by decide) ?_
      exact aw_pick [0, 1] rfl (ih_1 _ _ _ _ _ h)
    · rw [if_pos hc] at h
      refine aw_iconst (v := 1) d_Model_score_32 (by decide) ?_
      refine aw_goto (tgt := 37) d_Model_score_33 (by decide) ?_
      exact aw_pick [0, 1] rfl (ih_1 _ _ _ _ _ h)
set_option maxHeartbeats 4000000 in
theorem s_Model_score_1 {rc : Nat → Nat → Int32 → Int32 → Nat → am_M → Option (Int32 × am_M)} {res : Int32} {M' : am_M} (ih_0 : ∀ (r0 : Nat) (x1 : Int32) (s0 : Int32) (sr1 : Nat) (M : am_M), rc 0 r0 x1 s0 sr1 M = some (res, M') → AW u_Model_score R_Model_score 0 0 15 [(0, .ref r0), (1, .int x1)] [.int s0, .ref sr1] M (fun r M2 => r = .inl (some (.int res)) ∧ M2 = M')) (ih_1 : ∀ (r0 : Nat) (x1 : Int32) (s0 : Int32) (sr1 : Nat) (M : am_M), rc 1 r0 x1 s0 sr1 M = some (res, M') → AW u_Model_score R_Model_score 0 0 37 [(0, .ref r0), (1, .int x1)] [.int s0, .ref sr1] M (fun r M2 => r = .inl (some (.int res)) ∧ M2 = M')) (ih_2 : ∀ (r0 : Nat) (x1 : Int32) (s0 : Int32) (sr1 : Nat) (M : am_M), rc 2 r0 x1 s0 sr1 M = some (res, M') → AW u_Model_score R_Model_score 0 0 44 [] [] M (fun r M2 => r = .inl (some (.int res)) ∧ M2 = M')) : ∀ (r0 : Nat) (x1 : Int32) (s0 : Int32) (sr1 : Nat) (M : am_M), a_Model_score_1 rc r0 x1 s0 sr1 M = some (res, M') → AW u_Model_score R_Model_score 0 0 37 [(0, .ref r0), (1, .int x1)] [.int s0, .ref sr1] M (fun r M2 => r = .inl (some (.int res)) ∧ M2 = M') := by
  intro r0 x1 s0 sr1 M h
  unfold a_Model_score_1 at h
  refine aw_iconst (v := 2) d_Model_score_37 (by decide) ?_
  obtain ⟨o38, e_o38, h⟩ := q_bind h
  obtain ⟨⟨t38, M38⟩, e_t38, h⟩ := q_bind h
  dsimp only at h
  refine aw_cV (v := (some (.int t38))) (As := [.int s0, .int (2 : Int32)]) (rest := []) (st' := [.int t38]) d_Model_score_38 kV_Model_184 (q_ob_spec e_o38).1 (q_ob_spec e_o38).2 ⟨Nat.le_of_ble_eq_true rfl, Nat.le_of_ble_eq_true rfl, Nat.le_of_ble_eq_true rfl, Nat.le_of_ble_eq_true rfl⟩ rfl rfl (Nat.le_of_ble_eq_true rfl) rfl (mt_Model_fails e_t38) ?_
  refine aw_if_eq (tgt := 48) d_Model_score_41 (by decide) (fun hc => ?_) (fun hc => ?_)
  · rw [if_pos hc] at h
    refine aw_aload_n d_Model_score_48 rfl rfl ?_
    refine aw_iload_n d_Model_score_49 rfl rfl ?_
    obtain ⟨o50, e_o50, h⟩ := q_bind h
    obtain ⟨t50, e_t50, h⟩ := q_bind h
    refine aw_cV (v := (some (.int t50))) (As := [.int x1]) (rest := []) (st' := [.int t50]) d_Model_score_50 kV_Model_267 (q_ob_spec e_o50).1 (q_ob_spec e_o50).2 ⟨Nat.le_of_ble_eq_true rfl, Nat.le_of_ble_eq_true rfl, Nat.le_of_ble_eq_true rfl, Nat.le_of_ble_eq_true rfl⟩ rfl rfl (Nat.le_of_ble_eq_true rfl) rfl (mt_Model_scoreOf e_t50) ?_
    cases h
    exact aw_ireturn d_Model_score_53 rfl (Nat.le_of_ble_eq_true rfl) (Nat.le_of_ble_eq_true rfl) ⟨rfl, rfl⟩
  · rw [if_neg hc] at h
    exact aw_pick [] rfl (ih_2 _ _ _ _ _ h)
set_option maxHeartbeats 4000000 in
theorem s_Model_score_2 {rc : Nat → Nat → Int32 → Int32 → Nat → am_M → Option (Int32 × am_M)} {res : Int32} {M' : am_M} (ih_0 : ∀ (r0 : Nat) (x1 : Int32) (s0 : Int32) (sr1 : Nat) (M : am_M), rc 0 r0 x1 s0 sr1 M = some (res, M') → AW u_Model_score R_Model_score 0 0 15 [(0, .ref r0), (1, .int x1)] [.int s0, .ref sr1] M (fun r M2 => r = .inl (some (.int res)) ∧ M2 = M')) (ih_1 : ∀ (r0 : Nat) (x1 : Int32) (s0 : Int32) (sr1 : Nat) (M : am_M), rc 1 r0 x1 s0 sr1 M = some (res, M') → AW u_Model_score R_Model_score 0 0 37 [(0, .ref r0), (1, .int x1)] [.int s0, .ref sr1] M (fun r M2 => r = .inl (some (.int res)) ∧ M2 = M')) (ih_2 : ∀ (r0 : Nat) (x1 : Int32) (s0 : Int32) (sr1 : Nat) (M : am_M), rc 2 r0 x1 s0 sr1 M = some (res, M') → AW u_Model_score R_Model_score 0 0 44 [] [] M (fun r M2 => r = .inl (some (.int res)) ∧ M2 = M')) : ∀ (r0 : Nat) (x1 : Int32) (s0 : Int32) (sr1 : Nat) (M : am_M), a_Model_score_2 rc r0 x1 s0 sr1 M = some (res, M') → AW u_Model_score R_Model_score 0 0 44 [] [] M (fun r M2 => r = .inl (some (.int res)) ∧ M2 = M') := by
  intro r0 x1 s0 sr1 M h
  unfold a_Model_score_2 at h
  refine aw_iconst (v := 0) d_Model_score_44 (by decide) ?_
  refine aw_goto (tgt := 53) d_Model_score_45 (by decide) ?_
  cases h
  exact aw_ireturn d_Model_score_53 rfl (Nat.le_of_ble_eq_true rfl) (Nat.le_of_ble_eq_true rfl) ⟨rfl, rfl⟩
theorem l_Model_score {res : Int32} {M' : am_M} : ∀ F : Nat, (∀ (r0 : Nat) (x1 : Int32) (s0 : Int32) (sr1 : Nat) (M : am_M), g_Model_score F 0 r0 x1 s0 sr1 M = some (res, M') → AW u_Model_score R_Model_score 0 0 15 [(0, .ref r0), (1, .int x1)] [.int s0, .ref sr1] M (fun r M2 => r = .inl (some (.int res)) ∧ M2 = M')) ∧ (∀ (r0 : Nat) (x1 : Int32) (s0 : Int32) (sr1 : Nat) (M : am_M), g_Model_score F 1 r0 x1 s0 sr1 M = some (res, M') → AW u_Model_score R_Model_score 0 0 37 [(0, .ref r0), (1, .int x1)] [.int s0, .ref sr1] M (fun r M2 => r = .inl (some (.int res)) ∧ M2 = M')) ∧ (∀ (r0 : Nat) (x1 : Int32) (s0 : Int32) (sr1 : Nat) (M : am_M), g_Model_score F 2 r0 x1 s0 sr1 M = some (res, M') → AW u_Model_score R_Model_score 0 0 44 [] [] M (fun r M2 => r = .inl (some (.int res)) ∧ M2 = M')) := by
  intro F
  induction F with
  | zero => exact ⟨fun _ _ _ _ _  h => (by cases h), fun _ _ _ _ _  h => (by cases h), fun _ _ _ _ _  h => (by cases h)⟩
  | succ F ih =>
    obtain ⟨ih0, ih1, ih2⟩ := ih
    exact ⟨s_Model_score_0 ih0 ih1 ih2, s_Model_score_1 ih0 ih1 ih2, s_Model_score_2 ih0 ih1 ih2⟩
set_option maxHeartbeats 4000000 in
theorem mt_Model_score {M : am_M} {a0 : Nat} {a1 : Int32} {res : Int32} {M' : am_M} (h : f_Model_score M a0 a1 = some (res, M')) : AMet y_Model_score u_Model_score R_Model_score [.ref a0, .int a1] M (fun r M2 => r = .inl (some (.int res)) ∧ M2 = M') := by
  refine am_met (by decide +kernel) w_Model_score rfl rfl (Nat.le_of_ble_eq_true rfl) ?_
  show AW u_Model_score R_Model_score 0 0 0 [(0, .ref a0), (1, .int a1)] [] M (fun r M2 => r = .inl (some (.int res)) ∧ M2 = M')
  have ih_0 := (l_Model_score (res := res) (M' := M') 1000000000).1
  have ih_1 := (l_Model_score (res := res) (M' := M') 1000000000).2.1
  have ih_2 := (l_Model_score (res := res) (M' := M') 1000000000).2.2
  unfold f_Model_score at h
  unfold e_Model_score at h
  generalize g_Model_score 1000000000 = rc at h ih_0 ih_1 ih_2
  refine aw_aload_n d_Model_score_0 rfl rfl ?_
  refine aw_iload_n d_Model_score_1 rfl rfl ?_
  refine aw_iconst (v := 0) d_Model_score_2 (by decide) ?_
  refine aw_iconst (v := 3) d_Model_score_3 (by decide) ?_
  obtain ⟨t4, e_t4, h⟩ := q_bind h
  refine aw_cS (v := (some (.int t4))) (As := [.int a1, .int (0 : Int32), .int (3 : Int32)]) (rest := [.ref a0]) (st' := [.int t4, .ref a0]) d_Model_score_4 kS_Model_180 ⟨Nat.le_of_ble_eq_true rfl, Nat.le_of_ble_eq_true rfl, Nat.le_of_ble_eq_true rfl, Nat.le_of_ble_eq_true rfl⟩ rfl rfl (Nat.le_of_ble_eq_true rfl) rfl (mt_Model_within e_t4) ?_
  refine aw_if_ne (tgt := 14) d_Model_score_7 (by decide) (fun hc => ?_) (fun hc => ?_)
  · rw [if_neg hc] at h
    refine aw_iconst (v := 0) d_Model_score_14 (by decide) ?_
    exact aw_pick [0, 1] rfl (ih_0 _ _ _ _ _ h)
  · rw [if_pos hc] at h
    refine aw_iconst (v := 1) d_Model_score_10 (by decide) ?_
    refine aw_goto (tgt := 15) d_Model_score_11 (by decide) ?_
    exact aw_pick [0, 1] rfl (ih_0 _ _ _ _ _ h)
def y_Model_local : MethodName := ⟨"CrewOfficeModel", "local", "(II)I"⟩
def u_Model_local : am_U := ("CrewOfficeModel", "local", prog_12_method_53_code, 3, (some .int), [])
def R_Model_local : Room := { frames := 1, cells := 0, slots := 0, locals := 22 }
theorem d_Model_local_0 : decode u_Model_local.2.2.1 0 = .ok (.aload_n 0, 1) := by decide +kernel
theorem d_Model_local_1 : decode u_Model_local.2.2.1 1 = .ok (.iload_n 1, 1) := by decide +kernel
theorem d_Model_local_2 : decode u_Model_local.2.2.1 2 = .ok (.iconst 0, 1) := by decide +kernel
theorem d_Model_local_3 : decode u_Model_local.2.2.1 3 = .ok (.iconst 4, 1) := by decide +kernel
theorem d_Model_local_4 : decode u_Model_local.2.2.1 4 = .ok (.invokestatic 180, 3) := by decide +kernel
theorem d_Model_local_7 : decode u_Model_local.2.2.1 7 = .ok (.ifCond .eq 14, 3) := by decide +kernel
theorem d_Model_local_10 : decode u_Model_local.2.2.1 10 = .ok (.iload_n 2, 1) := by decide +kernel
theorem d_Model_local_11 : decode u_Model_local.2.2.1 11 = .ok (.iconst 0, 1) := by decide +kernel
theorem d_Model_local_12 : decode u_Model_local.2.2.1 12 = .ok (.sipush 20160, 3) := by decide +kernel
theorem d_Model_local_15 : decode u_Model_local.2.2.1 15 = .ok (.invokestatic 180, 3) := by decide +kernel
theorem d_Model_local_18 : decode u_Model_local.2.2.1 18 = .ok (.ifCond .ne 7, 3) := by decide +kernel
theorem d_Model_local_21 : decode u_Model_local.2.2.1 21 = .ok (.iconst 1, 1) := by decide +kernel
theorem d_Model_local_22 : decode u_Model_local.2.2.1 22 = .ok (.goto 4, 3) := by decide +kernel
theorem d_Model_local_25 : decode u_Model_local.2.2.1 25 = .ok (.iconst 0, 1) := by decide +kernel
theorem d_Model_local_26 : decode u_Model_local.2.2.1 26 = .ok (.iconst 1, 1) := by decide +kernel
theorem d_Model_local_27 : decode u_Model_local.2.2.1 27 = .ok (.invokevirtual 184, 3) := by decide +kernel
theorem d_Model_local_30 : decode u_Model_local.2.2.1 30 = .ok (.ifCond .eq 7, 3) := by decide +kernel
theorem d_Model_local_33 : decode u_Model_local.2.2.1 33 = .ok (.iconst 0, 1) := by decide +kernel
theorem d_Model_local_34 : decode u_Model_local.2.2.1 34 = .ok (.goto 9, 3) := by decide +kernel
theorem d_Model_local_37 : decode u_Model_local.2.2.1 37 = .ok (.aload_n 0, 1) := by decide +kernel
theorem d_Model_local_38 : decode u_Model_local.2.2.1 38 = .ok (.iload_n 1, 1) := by decide +kernel
theorem d_Model_local_39 : decode u_Model_local.2.2.1 39 = .ok (.iload_n 2, 1) := by decide +kernel
theorem d_Model_local_40 : decode u_Model_local.2.2.1 40 = .ok (.invokevirtual 168, 3) := by decide +kernel
theorem d_Model_local_43 : decode u_Model_local.2.2.1 43 = .ok (.ireturn, 1) := by decide +kernel
theorem w_Model_local : am_code y_Model_local u_Model_local ∈ am_ws := am_mem (List.mem_of_getElem? (i := 1375) (by decide +kernel)) rfl
def a_Model_local_0 (rc : Nat → Nat → Int32 → Int32 → Int32 → Nat → Nat → am_M → Option (Int32 × am_M)) (r0 : Nat) (x1 : Int32) (x2 : Int32) (s0 : Int32) (sr0 : Nat) (sr1 : Nat) (M : am_M) : Option (Int32 × am_M) := rc 1 r0 x1 x2 (1 : Int32) 0 sr0 M
def a_Model_local_1 (rc : Nat → Nat → Int32 → Int32 → Int32 → Nat → Nat → am_M → Option (Int32 × am_M)) (r0 : Nat) (x1 : Int32) (x2 : Int32) (s0 : Int32) (sr0 : Nat) (sr1 : Nat) (M : am_M) : Option (Int32 × am_M) := (q_ob M sr1 10).bind (fun o27 => (f_Model_fails M sr1 s0 (1 : Int32)).bind (fun p27 => if p27.1 = 0 then ((q_ob p27.2 r0 10).bind (fun o40 => (f_Model_localOf p27.2 r0 x1 x2).bind (fun t40 => some (t40, p27.2)))) else (some ((0 : Int32), p27.2))))
def g_Model_local : Nat → Nat → Nat → Int32 → Int32 → Int32 → Nat → Nat → am_M → Option (Int32 × am_M)
  | 0, _, _, _, _, _, _, _, _ => none
  | F + 1, 0, r0, x1, x2, s0, sr0, sr1, M => a_Model_local_0 (g_Model_local F) r0 x1 x2 s0 sr0 sr1 M
  | F + 1, 1, r0, x1, x2, s0, sr0, sr1, M => a_Model_local_1 (g_Model_local F) r0 x1 x2 s0 sr0 sr1 M
  | _ + 1, _ + 2, _, _, _, _, _, _, _ => none
def e_Model_local (rc : Nat → Nat → Int32 → Int32 → Int32 → Nat → Nat → am_M → Option (Int32 × am_M)) (M : am_M) (a0 : Nat) (a1 : Int32) (a2 : Int32) : Option (Int32 × am_M) := (f_Model_within M a1 (0 : Int32) (4 : Int32)).bind (fun t4 => if t4 = 0 then (rc 0 a0 a1 a2 0 a0 0 M) else ((f_Model_within M a2 (0 : Int32) (20160 : Int32)).bind (fun t15 => if t15 = 0 then (rc 0 a0 a1 a2 0 a0 0 M) else (rc 1 a0 a1 a2 (0 : Int32) 0 a0 M))))
def f_Model_local (M : am_M) (a0 : Nat) (a1 : Int32) (a2 : Int32) : Option (Int32 × am_M) := e_Model_local (g_Model_local 1000000000) M a0 a1 a2
set_option maxHeartbeats 4000000 in
theorem s_Model_local_0 {rc : Nat → Nat → Int32 → Int32 → Int32 → Nat → Nat → am_M → Option (Int32 × am_M)} {res : Int32} {M' : am_M} (ih_0 : ∀ (r0 : Nat) (x1 : Int32) (x2 : Int32) (s0 : Int32) (sr0 : Nat) (sr1 : Nat) (M : am_M), rc 0 r0 x1 x2 s0 sr0 sr1 M = some (res, M') → AW u_Model_local R_Model_local 0 0 21 [(0, .ref r0), (1, .int x1), (2, .int x2)] [.ref sr0] M (fun r M2 => r = .inl (some (.int res)) ∧ M2 = M')) (ih_1 : ∀ (r0 : Nat) (x1 : Int32) (x2 : Int32) (s0 : Int32) (sr0 : Nat) (sr1 : Nat) (M : am_M), rc 1 r0 x1 x2 s0 sr0 sr1 M = some (res, M') → AW u_Model_local R_Model_local 0 0 26 [(0, .ref r0), (1, .int x1), (2, .int x2)] [.int s0, .ref sr1] M (fun r M2 => r = .inl (some (.int res)) ∧ M2 = M')) : ∀ (r0 : Nat) (x1 : Int32) (x2 : Int32) (s0 : Int32) (sr0 : Nat) (sr1 : Nat) (M : am_M), a_Model_local_0 rc r0 x1 x2 s0 sr0 sr1 M = some (res, M') → AW u_Model_local R_Model_local 0 0 21 [(0, .ref r0), (1, .int x1), (2, .int x2)] [.ref sr0] M (fun r M2 => r = .inl (some (.int res)) ∧ M2 = M') := by
  intro r0 x1 x2 s0 sr0 sr1 M h
  unfold a_Model_local_0 at h
  refine aw_iconst (v := 1) d_Model_local_21 (by decide) ?_
  refine aw_goto (tgt := 26) d_Model_local_22 (by decide) ?_
  exact aw_pick [0, 1, 2] rfl (ih_1 _ _ _ _ _ _ _ h)
set_option maxHeartbeats 4000000 in
theorem s_Model_local_1 {rc : Nat → Nat → Int32 → Int32 → Int32 → Nat → Nat → am_M → Option (Int32 × am_M)} {res : Int32} {M' : am_M} (ih_0 : ∀ (r0 : Nat) (x1 : Int32) (x2 : Int32) (s0 : Int32) (sr0 : Nat) (sr1 : Nat) (M : am_M), rc 0 r0 x1 x2 s0 sr0 sr1 M = some (res, M') → AW u_Model_local R_Model_local 0 0 21 [(0, .ref r0), (1, .int x1), (2, .int x2)] [.ref sr0] M (fun r M2 => r = .inl (some (.int res)) ∧ M2 = M')) (ih_1 : ∀ (r0 : Nat) (x1 : Int32) (x2 : Int32) (s0 : Int32) (sr0 : Nat) (sr1 : Nat) (M : am_M), rc 1 r0 x1 x2 s0 sr0 sr1 M = some (res, M') → AW u_Model_local R_Model_local 0 0 26 [(0, .ref r0), (1, .int x1), (2, .int x2)] [.int s0, .ref sr1] M (fun r M2 => r = .inl (some (.int res)) ∧ M2 = M')) : ∀ (r0 : Nat) (x1 : Int32) (x2 : Int32) (s0 : Int32) (sr0 : Nat) (sr1 : Nat) (M : am_M), a_Model_local_1 rc r0 x1 x2 s0 sr0 sr1 M = some (res, M') → AW u_Model_local R_Model_local 0 0 26 [(0, .ref r0), (1, .int x1), (2, .int x2)] [.int s0, .ref sr1] M (fun r M2 => r = .inl (some (.int res)) ∧ M2 = M') := by
  intro r0 x1 x2 s0 sr0 sr1 M h
  unfold a_Model_local_1 at h
  refine aw_iconst (v := 1) d_Model_local_26 (by decide) ?_
  obtain ⟨o27, e_o27, h⟩ := q_bind h
  obtain ⟨⟨t27, M27⟩, e_t27, h⟩ := q_bind h
  dsimp only at h
  refine aw_cV (v := (some (.int t27))) (As := [.int s0, .int (1 : Int32)]) (rest := []) (st' := [.int t27]) d_Model_local_27 kV_Model_184 (q_ob_spec e_o27).1 (q_ob_spec e_o27).2 ⟨Nat.le_of_ble_eq_true rfl, Nat.le_of_ble_eq_true rfl, Nat.le_of_ble_eq_true rfl, Nat.le_of_ble_eq_true rfl⟩ rfl rfl (Nat.le_of_ble_eq_true rfl) rfl (mt_Model_fails e_t27) ?_
  refine aw_if_eq (tgt := 37) d_Model_local_30 (by decide) (fun hc => ?_) (fun hc => ?_)
  · rw [if_pos hc] at h
    refine aw_aload_n d_Model_local_37 rfl rfl ?_
    refine aw_iload_n d_Model_local_38 rfl rfl ?_
    refine aw_iload_n d_Model_local_39 rfl rfl ?_
    obtain ⟨o40, e_o40, h⟩ := q_bind h
    obtain ⟨t40, e_t40, h⟩ := q_bind h
    refine aw_cV (v := (some (.int t40))) (As := [.int x1, .int x2]) (rest := []) (st' := [.int t40]) d_Model_local_40 kV_Model_168 (q_ob_spec e_o40).1 (q_ob_spec e_o40).2 ⟨Nat.le_of_ble_eq_true rfl, Nat.le_of_ble_eq_true rfl, Nat.le_of_ble_eq_true rfl, Nat.le_of_ble_eq_true rfl⟩ rfl rfl (Nat.le_of_ble_eq_true rfl) rfl (mt_Model_localOf e_t40) ?_
    cases h
    exact aw_ireturn d_Model_local_43 rfl (Nat.le_of_ble_eq_true rfl) (Nat.le_of_ble_eq_true rfl) ⟨rfl, rfl⟩
  · rw [if_neg hc] at h
    refine aw_iconst (v := 0) d_Model_local_33 (by decide) ?_
    refine aw_goto (tgt := 43) d_Model_local_34 (by decide) ?_
    cases h
    exact aw_ireturn d_Model_local_43 rfl (Nat.le_of_ble_eq_true rfl) (Nat.le_of_ble_eq_true rfl) ⟨rfl, rfl⟩
theorem l_Model_local {res : Int32} {M' : am_M} : ∀ F : Nat, (∀ (r0 : Nat) (x1 : Int32) (x2 : Int32) (s0 : Int32) (sr0 : Nat) (sr1 : Nat) (M : am_M), g_Model_local F 0 r0 x1 x2 s0 sr0 sr1 M = some (res, M') → AW u_Model_local R_Model_local 0 0 21 [(0, .ref r0), (1, .int x1), (2, .int x2)] [.ref sr0] M (fun r M2 => r = .inl (some (.int res)) ∧ M2 = M')) ∧ (∀ (r0 : Nat) (x1 : Int32) (x2 : Int32) (s0 : Int32) (sr0 : Nat) (sr1 : Nat) (M : am_M), g_Model_local F 1 r0 x1 x2 s0 sr0 sr1 M = some (res, M') → AW u_Model_local R_Model_local 0 0 26 [(0, .ref r0), (1, .int x1), (2, .int x2)] [.int s0, .ref sr1] M (fun r M2 => r = .inl (some (.int res)) ∧ M2 = M')) := by
  intro F
  induction F with
  | zero => exact ⟨fun _ _ _ _ _ _ _  h => (by cases h), fun _ _ _ _ _ _ _  h => (by cases h)⟩
  | succ F ih =>
    obtain ⟨ih0, ih1⟩ := ih
    exact ⟨s_Model_local_0 ih0 ih1, s_Model_local_1 ih0 ih1⟩
set_option maxHeartbeats 4000000 in
theorem mt_Model_local {M : am_M} {a0 : Nat} {a1 : Int32} {a2 : Int32} {res : Int32} {M' : am_M} (h : f_Model_local M a0 a1 a2 = some (res, M')) : AMet y_Model_local u_Model_local R_Model_local [.ref a0, .int a1, .int a2] M (fun r M2 => r = .inl (some (.int res)) ∧ M2 = M') := by
  refine am_met (by decide +kernel) w_Model_local rfl rfl (Nat.le_of_ble_eq_true rfl) ?_
  show AW u_Model_local R_Model_local 0 0 0 [(0, .ref a0), (1, .int a1), (2, .int a2)] [] M (fun r M2 => r = .inl (some (.int res)) ∧ M2 = M')
  have ih_0 := (l_Model_local (res := res) (M' := M') 1000000000).1
  have ih_1 := (l_Model_local (res := res) (M' := M') 1000000000).2
  unfold f_Model_local at h
  unfold e_Model_local at h
  generalize g_Model_local 1000000000 = rc at h ih_0 ih_1
  refine aw_aload_n d_Model_local_0 rfl rfl ?_
  refine aw_iload_n d_Model_local_1 rfl rfl ?_
  refine aw_iconst (v := 0) d_Model_local_2 (by decide) ?_
  refine aw_iconst (v := 4) d_Model_local_3 (by decide) ?_
  obtain ⟨t4, e_t4, h⟩ := q_bind h
  refine aw_cS (v := (some (.int t4))) (As := [.int a1, .int (0 : Int32), .int (4 : Int32)]) (rest := [.ref a0]) (st' := [.int t4, .ref a0]) d_Model_local_4 kS_Model_180 ⟨Nat.le_of_ble_eq_true rfl, Nat.le_of_ble_eq_true rfl, Nat.le_of_ble_eq_true rfl, Nat.le_of_ble_eq_true rfl⟩ rfl rfl (Nat.le_of_ble_eq_true rfl) rfl (mt_Model_within e_t4) ?_
  refine aw_if_eq (tgt := 21) d_Model_local_7 (by decide) (fun hc => ?_) (fun hc => ?_)
  · rw [if_pos hc] at h
    exact aw_pick [0, 1, 2] rfl (ih_0 _ _ _ _ _ _ _ h)
  · rw [if_neg hc] at h
    refine aw_iload_n d_Model_local_10 rfl rfl ?_
    refine aw_iconst (v := 0) d_Model_local_11 (by decide) ?_
    refine aw_sipush (v := 20160) d_Model_local_12 (by decide) ?_
    obtain ⟨t15, e_t15, h⟩ := q_bind h
    refine aw_cS (v := (some (.int t15))) (As := [.int a2, .int (0 : Int32), .int (20160 : Int32)]) (rest := [.ref a0]) (st' := [.int t15, .ref a0]) d_Model_local_15 kS_Model_180 ⟨Nat.le_of_ble_eq_true rfl, Nat.le_of_ble_eq_true rfl, Nat.le_of_ble_eq_true rfl, Nat.le_of_ble_eq_true rfl⟩ rfl rfl (Nat.le_of_ble_eq_true rfl) rfl (mt_Model_within e_t15) ?_
    refine aw_if_ne (tgt := 25) d_Model_local_18 (by decide) (fun hc => ?_) (fun hc => ?_)
    · rw [if_neg hc] at h
      refine aw_iconst (v := 0) d_Model_local_25 (by decide) ?_
      exact aw_pick [0, 1, 2] rfl (ih_1 _ _ _ _ _ _ _ h)
    · rw [if_pos hc] at h
      exact aw_pick [0, 1, 2] rfl (ih_0 _ _ _ _ _ _ _ h)
def y_Model_look : MethodName := ⟨"CrewOfficeModel", "look", "(I)I"⟩
def u_Model_look : am_U := ("CrewOfficeModel", "look", prog_12_method_54_code, 4, (some .int), [])
def R_Model_look : Room := { frames := 1, cells := 0, slots := 0, locals := 22 }
theorem d_Model_look_0 : decode u_Model_look.2.2.1 0 = .ok (.aload_n 0, 1) := by decide +kernel
theorem d_Model_look_1 : decode u_Model_look.2.2.1 1 = .ok (.iload_n 1, 1) := by decide +kernel
theorem d_Model_look_2 : decode u_Model_look.2.2.1 2 = .ok (.iconst 0, 1) := by decide +kernel
theorem d_Model_look_3 : decode u_Model_look.2.2.1 3 = .ok (.iconst 5, 1) := by decide +kernel
theorem d_Model_look_4 : decode u_Model_look.2.2.1 4 = .ok (.invokestatic 180, 3) := by decide +kernel
theorem d_Model_look_7 : decode u_Model_look.2.2.1 7 = .ok (.ifCond .ne 7, 3) := by decide +kernel
theorem d_Model_look_10 : decode u_Model_look.2.2.1 10 = .ok (.iconst 1, 1) := by decide +kernel
theorem d_Model_look_11 : decode u_Model_look.2.2.1 11 = .ok (.goto 4, 3) := by decide +kernel
theorem d_Model_look_14 : decode u_Model_look.2.2.1 14 = .ok (.iconst 0, 1) := by decide +kernel
theorem d_Model_look_15 : decode u_Model_look.2.2.1 15 = .ok (.iconst 1, 1) := by decide +kernel
theorem d_Model_look_16 : decode u_Model_look.2.2.1 16 = .ok (.invokevirtual 184, 3) := by decide +kernel
theorem d_Model_look_19 : decode u_Model_look.2.2.1 19 = .ok (.ifCond .eq 5, 3) := by decide +kernel
theorem d_Model_look_22 : decode u_Model_look.2.2.1 22 = .ok (.iconst 0, 1) := by decide +kernel
theorem d_Model_look_23 : decode u_Model_look.2.2.1 23 = .ok (.ireturn, 1) := by decide +kernel
theorem d_Model_look_24 : decode u_Model_look.2.2.1 24 = .ok (.iconst 0, 1) := by decide +kernel
theorem d_Model_look_25 : decode u_Model_look.2.2.1 25 = .ok (.istore_n 2, 1) := by decide +kernel
theorem d_Model_look_26 : decode u_Model_look.2.2.1 26 = .ok (.iload_n 1, 1) := by decide +kernel
theorem d_Model_look_27 : decode u_Model_look.2.2.1 27 = .ok (.tableswitch 152 0 4 #[33, 66, 98, 103, 108], 33) := by decide +kernel
theorem d_Model_look_60 : decode u_Model_look.2.2.1 60 = .ok (.iconst 0, 1) := by decide +kernel
theorem d_Model_look_61 : decode u_Model_look.2.2.1 61 = .ok (.istore_n 3, 1) := by decide +kernel
theorem d_Model_look_62 : decode u_Model_look.2.2.1 62 = .ok (.iload_n 3, 1) := by decide +kernel
theorem d_Model_look_63 : decode u_Model_look.2.2.1 63 = .ok (.bipush 12, 2) := by decide +kernel
theorem d_Model_look_65 : decode u_Model_look.2.2.1 65 = .ok (.if_icmp .ge 26, 3) := by decide +kernel
theorem d_Model_look_68 : decode u_Model_look.2.2.1 68 = .ok (.iload_n 2, 1) := by decide +kernel
theorem d_Model_look_69 : decode u_Model_look.2.2.1 69 = .ok (.aload_n 0, 1) := by decide +kernel
theorem d_Model_look_70 : decode u_Model_look.2.2.1 70 = .ok (.getfield 27, 3) := by decide +kernel
theorem d_Model_look_73 : decode u_Model_look.2.2.1 73 = .ok (.iload_n 3, 1) := by decide +kernel
theorem d_Model_look_74 : decode u_Model_look.2.2.1 74 = .ok (.baload, 1) := by decide +kernel
theorem d_Model_look_75 : decode u_Model_look.2.2.1 75 = .ok (.ifCond .eq 7, 3) := by decide +kernel
theorem d_Model_look_78 : decode u_Model_look.2.2.1 78 = .ok (.iconst 1, 1) := by decide +kernel
theorem d_Model_look_79 : decode u_Model_look.2.2.1 79 = .ok (.goto 4, 3) := by decide +kernel
theorem d_Model_look_82 : decode u_Model_look.2.2.1 82 = .ok (.iconst 0, 1) := by decide +kernel
theorem d_Model_look_83 : decode u_Model_look.2.2.1 83 = .ok (.iadd, 1) := by decide +kernel
theorem d_Model_look_84 : decode u_Model_look.2.2.1 84 = .ok (.istore_n 2, 1) := by decide +kernel
theorem d_Model_look_85 : decode u_Model_look.2.2.1 85 = .ok (.iinc 3 1, 3) := by decide +kernel
theorem d_Model_look_88 : decode u_Model_look.2.2.1 88 = .ok (.goto (-26), 3) := by decide +kernel
theorem d_Model_look_91 : decode u_Model_look.2.2.1 91 = .ok (.iload_n 2, 1) := by decide +kernel
theorem d_Model_look_92 : decode u_Model_look.2.2.1 92 = .ok (.ireturn, 1) := by decide +kernel
theorem d_Model_look_93 : decode u_Model_look.2.2.1 93 = .ok (.iconst 0, 1) := by decide +kernel
theorem d_Model_look_94 : decode u_Model_look.2.2.1 94 = .ok (.istore_n 3, 1) := by decide +kernel
theorem d_Model_look_95 : decode u_Model_look.2.2.1 95 = .ok (.iload_n 3, 1) := by decide +kernel
theorem d_Model_look_96 : decode u_Model_look.2.2.1 96 = .ok (.iconst 4, 1) := by decide +kernel
theorem d_Model_look_97 : decode u_Model_look.2.2.1 97 = .ok (.if_icmp .ge 26, 3) := by decide +kernel
theorem d_Model_look_100 : decode u_Model_look.2.2.1 100 = .ok (.iload_n 2, 1) := by decide +kernel
theorem d_Model_look_101 : decode u_Model_look.2.2.1 101 = .ok (.aload_n 0, 1) := by decide +kernel
theorem d_Model_look_102 : decode u_Model_look.2.2.1 102 = .ok (.getfield 45, 3) := by decide +kernel
theorem d_Model_look_105 : decode u_Model_look.2.2.1 105 = .ok (.iload_n 3, 1) := by decide +kernel
theorem d_Model_look_106 : decode u_Model_look.2.2.1 106 = .ok (.baload, 1) := by decide +kernel
theorem d_Model_look_107 : decode u_Model_look.2.2.1 107 = .ok (.ifCond .eq 7, 3) := by decide +kernel
theorem d_Model_look_110 : decode u_Model_look.2.2.1 110 = .ok (.iconst 1, 1) := by decide +kernel
theorem d_Model_look_111 : decode u_Model_look.2.2.1 111 = .ok (.goto 4, 3) := by decide +kernel
theorem d_Model_look_114 : decode u_Model_look.2.2.1 114 = .ok (.iconst 0, 1) := by decide +kernel
theorem d_Model_look_115 : decode u_Model_look.2.2.1 115 = .ok (.iadd, 1) := by decide +kernel
theorem d_Model_look_116 : decode u_Model_look.2.2.1 116 = .ok (.istore_n 2, 1) := by decide +kernel
theorem d_Model_look_117 : decode u_Model_look.2.2.1 117 = .ok (.iinc 3 1, 3) := by decide +kernel
theorem d_Model_look_120 : decode u_Model_look.2.2.1 120 = .ok (.goto (-25), 3) := by decide +kernel
theorem d_Model_look_123 : decode u_Model_look.2.2.1 123 = .ok (.iload_n 2, 1) := by decide +kernel
theorem d_Model_look_124 : decode u_Model_look.2.2.1 124 = .ok (.ireturn, 1) := by decide +kernel
theorem d_Model_look_125 : decode u_Model_look.2.2.1 125 = .ok (.aload_n 0, 1) := by decide +kernel
theorem d_Model_look_126 : decode u_Model_look.2.2.1 126 = .ok (.getfield 222, 3) := by decide +kernel
theorem d_Model_look_129 : decode u_Model_look.2.2.1 129 = .ok (.ireturn, 1) := by decide +kernel
theorem d_Model_look_130 : decode u_Model_look.2.2.1 130 = .ok (.aload_n 0, 1) := by decide +kernel
theorem d_Model_look_131 : decode u_Model_look.2.2.1 131 = .ok (.getfield 102, 3) := by decide +kernel
theorem d_Model_look_134 : decode u_Model_look.2.2.1 134 = .ok (.ireturn, 1) := by decide +kernel
theorem d_Model_look_135 : decode u_Model_look.2.2.1 135 = .ok (.iconst 0, 1) := by decide +kernel
theorem d_Model_look_136 : decode u_Model_look.2.2.1 136 = .ok (.istore_n 3, 1) := by decide +kernel
theorem d_Model_look_137 : decode u_Model_look.2.2.1 137 = .ok (.iload_n 3, 1) := by decide +kernel
theorem d_Model_look_138 : decode u_Model_look.2.2.1 138 = .ok (.bipush 40, 2) := by decide +kernel
theorem d_Model_look_140 : decode u_Model_look.2.2.1 140 = .ok (.if_icmp .ge 26, 3) := by decide +kernel
theorem d_Model_look_143 : decode u_Model_look.2.2.1 143 = .ok (.iload_n 2, 1) := by decide +kernel
theorem d_Model_look_144 : decode u_Model_look.2.2.1 144 = .ok (.aload_n 0, 1) := by decide +kernel
theorem d_Model_look_145 : decode u_Model_look.2.2.1 145 = .ok (.getfield 124, 3) := by decide +kernel
theorem d_Model_look_148 : decode u_Model_look.2.2.1 148 = .ok (.iload_n 3, 1) := by decide +kernel
theorem d_Model_look_149 : decode u_Model_look.2.2.1 149 = .ok (.baload, 1) := by decide +kernel
theorem d_Model_look_150 : decode u_Model_look.2.2.1 150 = .ok (.ifCond .eq 7, 3) := by decide +kernel
theorem d_Model_look_153 : decode u_Model_look.2.2.1 153 = .ok (.iconst 1, 1) := by decide +kernel
theorem d_Model_look_154 : decode u_Model_look.2.2.1 154 = .ok (.goto 4, 3) := by decide +kernel
theorem d_Model_look_157 : decode u_Model_look.2.2.1 157 = .ok (.iconst 0, 1) := by decide +kernel
theorem d_Model_look_158 : decode u_Model_look.2.2.1 158 = .ok (.iadd, 1) := by decide +kernel
theorem d_Model_look_159 : decode u_Model_look.2.2.1 159 = .ok (.istore_n 2, 1) := by decide +kernel
theorem d_Model_look_160 : decode u_Model_look.2.2.1 160 = .ok (.iinc 3 1, 3) := by decide +kernel
theorem d_Model_look_163 : decode u_Model_look.2.2.1 163 = .ok (.goto (-26), 3) := by decide +kernel
theorem d_Model_look_166 : decode u_Model_look.2.2.1 166 = .ok (.aload_n 0, 1) := by decide +kernel
theorem d_Model_look_167 : decode u_Model_look.2.2.1 167 = .ok (.getfield 161, 3) := by decide +kernel
theorem d_Model_look_170 : decode u_Model_look.2.2.1 170 = .ok (.ifCond .eq 7, 3) := by decide +kernel
theorem d_Model_look_173 : decode u_Model_look.2.2.1 173 = .ok (.iload_n 2, 1) := by decide +kernel
theorem d_Model_look_174 : decode u_Model_look.2.2.1 174 = .ok (.goto 4, 3) := by decide +kernel
theorem d_Model_look_177 : decode u_Model_look.2.2.1 177 = .ok (.iconst (-1), 1) := by decide +kernel
theorem d_Model_look_178 : decode u_Model_look.2.2.1 178 = .ok (.ireturn, 1) := by decide +kernel
theorem d_Model_look_179 : decode u_Model_look.2.2.1 179 = .ok (.iconst 0, 1) := by decide +kernel
theorem d_Model_look_180 : decode u_Model_look.2.2.1 180 = .ok (.istore_n 3, 1) := by decide +kernel
theorem d_Model_look_181 : decode u_Model_look.2.2.1 181 = .ok (.iload_n 3, 1) := by decide +kernel
theorem d_Model_look_182 : decode u_Model_look.2.2.1 182 = .ok (.bipush 40, 2) := by decide +kernel
theorem d_Model_look_184 : decode u_Model_look.2.2.1 184 = .ok (.if_icmp .ge 26, 3) := by decide +kernel
theorem d_Model_look_187 : decode u_Model_look.2.2.1 187 = .ok (.iload_n 2, 1) := by decide +kernel
theorem d_Model_look_188 : decode u_Model_look.2.2.1 188 = .ok (.aload_n 0, 1) := by decide +kernel
theorem d_Model_look_189 : decode u_Model_look.2.2.1 189 = .ok (.getfield 127, 3) := by decide +kernel
theorem d_Model_look_192 : decode u_Model_look.2.2.1 192 = .ok (.iload_n 3, 1) := by decide +kernel
theorem d_Model_look_193 : decode u_Model_look.2.2.1 193 = .ok (.iaload, 1) := by decide +kernel
theorem d_Model_look_194 : decode u_Model_look.2.2.1 194 = .ok (.ifCond .lt 7, 3) := by decide +kernel
theorem d_Model_look_197 : decode u_Model_look.2.2.1 197 = .ok (.iconst 1, 1) := by decide +kernel
theorem d_Model_look_198 : decode u_Model_look.2.2.1 198 = .ok (.goto 4, 3) := by decide +kernel
theorem d_Model_look_201 : decode u_Model_look.2.2.1 201 = .ok (.iconst 0, 1) := by decide +kernel
theorem d_Model_look_202 : decode u_Model_look.2.2.1 202 = .ok (.iadd, 1) := by decide +kernel
theorem d_Model_look_203 : decode u_Model_look.2.2.1 203 = .ok (.istore_n 2, 1) := by decide +kernel
theorem d_Model_look_204 : decode u_Model_look.2.2.1 204 = .ok (.iinc 3 1, 3) := by decide +kernel
theorem d_Model_look_207 : decode u_Model_look.2.2.1 207 = .ok (.goto (-26), 3) := by decide +kernel
theorem d_Model_look_210 : decode u_Model_look.2.2.1 210 = .ok (.iload_n 2, 1) := by decide +kernel
theorem d_Model_look_211 : decode u_Model_look.2.2.1 211 = .ok (.ireturn, 1) := by decide +kernel
theorem w_Model_look : am_code y_Model_look u_Model_look ∈ am_ws := am_mem (List.mem_of_getElem? (i := 1379) (by decide +kernel)) rfl
def a_Model_look_0 (rc : Nat → Nat → Int32 → Int32 → Int32 → Int32 → Int32 → Nat → am_M → Option (Int32 × am_M)) (r0 : Nat) (x1 : Int32) (x2 : Int32) (x3 : Int32) (s0 : Int32) (s1 : Int32) (sr1 : Nat) (M : am_M) : Option (Int32 × am_M) := (q_ob M sr1 10).bind (fun o16 => (f_Model_fails M sr1 s0 (1 : Int32)).bind (fun p16 => if p16.1 = 0 then (if x1 = (0 : Int32) then (rc 1 r0 0 (0 : Int32) (0 : Int32) 0 0 0 p16.2) else if x1 = (1 : Int32) then (rc 3 r0 0 (0 : Int32) (0 : Int32) 0 0 0 p16.2) else if x1 = (2 : Int32) then ((q_gti p16.2 r0 10 26).bind (fun t126 => some (t126, p16.2))) else if x1 = (3 : Int32) then ((q_gti p16.2 r0 10 34).bind (fun t131 => some (t131, p16.2))) else if x1 = (4 : Int32) then (rc 5 r0 0 (0 : Int32) (0 : Int32) 0 0 0 p16.2) else (rc 7 r0 0 (0 : Int32) (0 : Int32) 0 0 0 p16.2)) else (some ((0 : Int32), p16.2))))
def a_Model_look_1 (rc : Nat → Nat → Int32 → Int32 → Int32 → Int32 → Int32 → Nat → am_M → Option (Int32 × am_M)) (r0 : Nat) (x1 : Int32) (x2 : Int32) (x3 : Int32) (s0 : Int32) (s1 : Int32) (sr1 : Nat) (M : am_M) : Option (Int32 × am_M) := if (12 : Int32) ≤ x3 then (some (x2, M)) else ((q_gtr M r0 10 6).bind (fun t70 => (q_ldz M t70 x3).bind (fun t74 => if t74 = 0 then (rc 2 r0 0 0 x3 (0 : Int32) x2 0 M) else (rc 2 r0 0 0 x3 (1 : Int32) x2 0 M))))
def a_Model_look_2 (rc : Nat → Nat → Int32 → Int32 → Int32 → Int32 → Int32 → Nat → am_M → Option (Int32 × am_M)) (r0 : Nat) (x1 : Int32) (x2 : Int32) (x3 : Int32) (s0 : Int32) (s1 : Int32) (sr1 : Nat) (M : am_M) : Option (Int32 × am_M) := rc 1 r0 0 (s1 + s0) (x3 + (1 : Int32)) 0 0 0 M
def a_Model_look_3 (rc : Nat → Nat → Int32 → Int32 → Int32 → Int32 → Int32 → Nat → am_M → Option (Int32 × am_M)) (r0 : Nat) (x1 : Int32) (x2 : Int32) (x3 : Int32) (s0 : Int32) (s1 : Int32) (sr1 : Nat) (M : am_M) : Option (Int32 × am_M) := if (4 : Int32) ≤ x3 then (some (x2, M)) else ((q_gtr M r0 10 12).bind (fun t102 => (q_ldz M t102 x3).bind (fun t106 => if t106 = 0 then (rc 4 r0 0 0 x3 (0 : Int32) x2 0 M) else (rc 4 r0 0 0 x3 (1 : Int32) x2 0 M))))
def a_Model_look_4 (rc : Nat → Nat → Int32 → Int32 → Int32 → Int32 → Int32 → Nat → am_M → Option (Int32 × am_M)) (r0 : Nat) (x1 : Int32) (x2 : Int32) (x3 : Int32) (s0 : Int32) (s1 : Int32) (sr1 : Nat) (M : am_M) : Option (Int32 × am_M) := rc 3 r0 0 (s1 + s0) (x3 + (1 : Int32)) 0 0 0 M
def a_Model_look_5 (rc : Nat → Nat → Int32 → Int32 → Int32 → Int32 → Int32 → Nat → am_M → Option (Int32 × am_M)) (r0 : Nat) (x1 : Int32) (x2 : Int32) (x3 : Int32) (s0 : Int32) (s1 : Int32) (sr1 : Nat) (M : am_M) : Option (Int32 × am_M) := if (40 : Int32) ≤ x3 then ((q_gti M r0 10 41).bind (fun t167 => if t167 = 0 then (some ((-1 : Int32), M)) else (some (x2, M)))) else ((q_gtr M r0 10 42).bind (fun t145 => (q_ldz M t145 x3).bind (fun t149 => if t149 = 0 then (rc 6 r0 0 0 x3 (0 : Int32) x2 0 M) else (rc 6 r0 0 0 x3 (1 : Int32) x2 0 M))))
def a_Model_look_6 (rc : Nat → Nat → Int32 → Int32 → Int32 → Int32 → Int32 → Nat → am_M → Option (Int32 × am_M)) (r0 : Nat) (x1 : Int32) (x2 : Int32) (x3 : Int32) (s0 : Int32) (s1 : Int32) (sr1 : Nat) (M : am_M) : Option (Int32 × am_M) := rc 5 r0 0 (s1 + s0) (x3 + (1 : Int32)) 0 0 0 M
def a_Model_look_7 (rc : Nat → Nat → Int32 → Int32 → Int32 → Int32 → Int32 → Nat → am_M → Option (Int32 × am_M)) (r0 : Nat) (x1 : Int32) (x2 : Int32) (x3 : Int32) (s0 : Int32) (s1 : Int32) (sr1 : Nat) (M : am_M) : Option (Int32 × am_M) := if (40 : Int32) ≤ x3 then (some (x2, M)) else ((q_gtr M r0 10 43).bind (fun t189 => (q_ldi M t189 x3).bind (fun t193 => if t193 < 0 then (rc 8 r0 0 0 x3 (0 : Int32) x2 0 M) else (rc 8 r0 0 0 x3 (1 : Int32) x2 0 M))))
def a_Model_look_8 (rc : Nat → Nat → Int32 → Int32 → Int32 → Int32 → Int32 → Nat → am_M → Option (Int32 × am_M)) (r0 : Nat) (x1 : Int32) (x2 : Int32) (x3 : Int32) (s0 : Int32) (s1 : Int32) (sr1 : Nat) (M : am_M) : Option (Int32 × am_M) := rc 7 r0 0 (s1 + s0) (x3 + (1 : Int32)) 0 0 0 M
def g_Model_look : Nat → Nat → Nat → Int32 → Int32 → Int32 → Int32 → Int32 → Nat → am_M → Option (Int32 × am_M)
  | 0, _, _, _, _, _, _, _, _, _ => none
  | F + 1, 0, r0, x1, x2, x3, s0, s1, sr1, M => a_Model_look_0 (g_Model_look F) r0 x1 x2 x3 s0 s1 sr1 M
  | F + 1, 1, r0, x1, x2, x3, s0, s1, sr1, M => a_Model_look_1 (g_Model_look F) r0 x1 x2 x3 s0 s1 sr1 M
  | F + 1, 2, r0, x1, x2, x3, s0, s1, sr1, M => a_Model_look_2 (g_Model_look F) r0 x1 x2 x3 s0 s1 sr1 M
  | F + 1, 3, r0, x1, x2, x3, s0, s1, sr1, M => a_Model_look_3 (g_Model_look F) r0 x1 x2 x3 s0 s1 sr1 M
  | F + 1, 4, r0, x1, x2, x3, s0, s1, sr1, M => a_Model_look_4 (g_Model_look F) r0 x1 x2 x3 s0 s1 sr1 M
  | F + 1, 5, r0, x1, x2, x3, s0, s1, sr1, M => a_Model_look_5 (g_Model_look F) r0 x1 x2 x3 s0 s1 sr1 M
  | F + 1, 6, r0, x1, x2, x3, s0, s1, sr1, M => a_Model_look_6 (g_Model_look F) r0 x1 x2 x3 s0 s1 sr1 M
  | F + 1, 7, r0, x1, x2, x3, s0, s1, sr1, M => a_Model_look_7 (g_Model_look F) r0 x1 x2 x3 s0 s1 sr1 M
  | F + 1, 8, r0, x1, x2, x3, s0, s1, sr1, M => a_Model_look_8 (g_Model_look F) r0 x1 x2 x3 s0 s1 sr1 M
  | _ + 1, _ + 9, _, _, _, _, _, _, _, _ => none
def e_Model_look (rc : Nat → Nat → Int32 → Int32 → Int32 → Int32 → Int32 → Nat → am_M → Option (Int32 × am_M)) (M : am_M) (a0 : Nat) (a1 : Int32) : Option (Int32 × am_M) := (f_Model_within M a1 (0 : Int32) (5 : Int32)).bind (fun t4 => if t4 = 0 then (rc 0 a0 a1 0 0 (1 : Int32) 0 a0 M) else (rc 0 a0 a1 0 0 (0 : Int32) 0 a0 M))
def f_Model_look (M : am_M) (a0 : Nat) (a1 : Int32) : Option (Int32 × am_M) := e_Model_look (g_Model_look 1000000000) M a0 a1
theorem fl_Model_161 : am_fl "CrewOfficeModel" 161 10 41 := ⟨by decide, by decide, List.mem_of_getElem? (i := 1047) (by decide +kernel)⟩
set_option maxHeartbeats 4000000 in
theorem s_Model_look_0 {rc : Nat → Nat → Int32 → Int32 → Int32 → Int32 → Int32 → Nat → am_M → Option (Int32 × am_M)} {res : Int32} {M' : am_M} (ih_0 : ∀ (r0 : Nat) (x1 : Int32) (x2 : Int32) (x3 : Int32) (s0 : Int32) (s1 : Int32) (sr1 : Nat) (M : am_M), rc 0 r0 x1 x2 x3 s0 s1 sr1 M = some (res, M') → AW u_Model_look R_Model_look 0 0 15 [(0, .ref r0), (1, .int x1)] [.int s0, .ref sr1] M (fun r M2 => r = .inl (some (.int res)) ∧ M2 = M')) (ih_1 : ∀ (r0 : Nat) (x1 : Int32) (x2 : Int32) (x3 : Int32) (s0 : Int32) (s1 : Int32) (sr1 : Nat) (M : am_M), rc 1 r0 x1 x2 x3 s0 s1 sr1 M = some (res, M') → AW u_Model_look R_Model_look 0 0 62 [(0, .ref r0), (2, .int x2), (3, .int x3)] [] M (fun r M2 => r = .inl (some (.int res)) ∧ M2 = M')) (ih_2 : ∀ (r0 : Nat) (x1 : Int32) (x2 : Int32) (x3 : Int32) (s0 : Int32) (s1 : Int32) (sr1 : Nat) (M : am_M), rc 2 r0 x1 x2 x3 s0 s1 sr1 M = some (res, M') → AW u_Model_look R_Model_look 0 0 83 [(0, .ref r0), (3, .int x3)] [.int s0, .int s1] M (fun r M2 => r = .inl (some (.int res)) ∧ M2 = M')) (ih_3 : ∀ (r0 : Nat) (x1 : Int32) (x2 : Int32) (x3 : Int32) (s0 : Int32) (s1 : Int32) (sr1 : Nat) (M : am_M), rc 3 r0 x1 x2 x3 s0 s1 sr1 M = some (res, M') → AW u_Model_look R_Model_look 0 0 95 [(0, .ref r0), (2, .int x2), (3, .int x3)] [] M (fun r M2 => r = .inl (some (.int res)) ∧ M2 = M')) (ih_4 : ∀ (r0 : Nat) (x1 : Int32) (x2 : Int32) (x3 : Int32) (s0 : Int32) (s1 : Int32) (sr1 : Nat) (M : am_M), rc 4 r0 x1 x2 x3 s0 s1 sr1 M = some (res, M') → AW u_Model_look R_Model_look 0 0 115 [(0, .ref r0), (3, .int x3)] [.int s0, .int s1] M (fun r M2 => r = .inl (some (.int res)) ∧ M2 = M')) (ih_5 : ∀ (r0 : Nat) (x1 : Int32) (x2 : Int32) (x3 : Int32) (s0 : Int32) (s1 : Int32) (sr1 : Nat) (M : am_M), rc 5 r0 x1 x2 x3 s0 s1 sr1 M = some (res, M') → AW u_Model_look R_Model_look 0 0 137 [(0, .ref r0), (2, .int x2), (3, .int x3)] [] M (fun r M2 => r = .inl (some (.int res)) ∧ M2 = M')) (ih_6 : ∀ (r0 : Nat) (x1 : Int32) (x2 : Int32) (x3 : Int32) (s0 : Int32) (s1 : Int32) (sr1 : Nat) (M : am_M), rc 6 r0 x1 x2 x3 s0 s1 sr1 M = some (res, M') → AW u_Model_look R_Model_look 0 0 158 [(0, .ref r0), (3, .int x3)] [.int s0, .int s1] M (fun r M2 => r = .inl (some (.int res)) ∧ M2 = M')) (ih_7 : ∀ (r0 : Nat) (x1 : Int32) (x2 : Int32) (x3 : Int32) (s0 : Int32) (s1 : Int32) (sr1 : Nat) (M : am_M), rc 7 r0 x1 x2 x3 s0 s1 sr1 M = some (res, M') → AW u_Model_look R_Model_look 0 0 181 [(0, .ref r0), (2, .int x2), (3, .int x3)] [] M (fun r M2 => r = .inl (some (.int res)) ∧ M2 = M')) (ih_8 : ∀ (r0 : Nat) (x1 : Int32) (x2 : Int32) (x3 : Int32) (s0 : Int32) (s1 : Int32) (sr1 : Nat) (M : am_M), rc 8 r0 x1 x2 x3 s0 s1 sr1 M = some (res, M') → AW u_Model_look R_Model_look 0 0 202 [(0, .ref r0), (3, .int x3)] [.int s0, .int s1] M (fun r M2 => r = .inl (some (.int res)) ∧ M2 = M')) : ∀ (r0 : Nat) (x1 : Int32) (x2 : Int32) (x3 : Int32) (s0 : Int32) (s1 : Int32) (sr1 : Nat) (M : am_M), a_Model_look_0 rc r0 x1 x2 x3 s0 s1 sr1 M = some (res, M') → AW u_Model_look R_Model_look 0 0 15 [(0, .ref r0), (1, .int x1)] [.int s0, .ref sr1] M (fun r M2 => r = .inl (some (.int res)) ∧ M2 = M') := by
  intro r0 x1 x2 x3 s0 s1 sr1 M h
  unfold a_Model_look_0 at h
  refine aw_iconst (v := 1) d_Model_look_15 (by decide) ?_
  obtain ⟨o16, e_o16, h⟩ := q_bind h
  obtain ⟨⟨t16, M16⟩, e_t16, h⟩ := q_bind h
  dsimp only at h
  refine aw_cV (v := (some (.int t16))) (As := [.int s0, .int (1 : Int32)]) (rest := []) (st' := [.int t16]) d_Model_look_16 kV_Model_184 (q_ob_spec e_o16).1 (q_ob_spec e_o16).2 ⟨Nat.le_of_ble_eq_true rfl, Nat.le_of_ble_eq_true rfl, Nat.le_of_ble_eq_true rfl, Nat.le_of_ble_eq_true rfl⟩ rfl rfl (Nat.le_of_ble_eq_true rfl) rfl (mt_Model_fails e_t16) ?_
  refine aw_if_eq (tgt := 24) d_Model_look_19 (by decide) (fun hc => ?_) (fun hc => ?_)
  · rw [if_pos hc] at h
    refine aw_iconst (v := 0) d_Model_look_24 (by decide) ?_
    refine aw_istore_n (ls' := [(2, .int _), (0, .ref _), (1, .int _)]) d_Model_look_25 rfl (Nat.le_of_ble_eq_true rfl) rfl ?_
    refine aw_iload_n d_Model_look_26 rfl rfl ?_
    by_cases c27_0 : x1 = (0 : Int32)
    · rw [if_pos c27_0] at h
      have hx : (x1).toInt = (0 : Int) := by rw [c27_0]; rfl
      refine aw_tableIn (off := 33) (tgt := 60) d_Model_look_27 (by rw [hx]; decide) (by rw [hx]; decide) (by rw [hx]; rfl) (by decide) ?_
      refine aw_iconst (v := 0) d_Model_look_60 (by decide) ?_
      refine aw_istore_n (ls' := [(3, .int _), (2, .int _), (0, .ref _), (1, .int _)]) d_Model_look_61 rfl (Nat.le_of_ble_eq_true rfl) rfl ?_
      exact aw_pick [2, 1, 0] rfl (ih_1 _ _ _ _ _ _ _ _ h)
    rw [if_neg c27_0] at h
    by_cases c27_1 : x1 = (1 : Int32)
    · rw [if_pos c27_1] at h
      have hx : (x1).toInt = (1 : Int) := by rw [c27_1]; rfl
      refine aw_tableIn (off := 66) (tgt := 93) d_Model_look_27 (by rw [hx]; decide) (by rw [hx]; decide) (by rw [hx]; rfl) (by decide) ?_
      refine aw_iconst (v := 0) d_Model_look_93 (by decide) ?_
      refine aw_istore_n (ls' := [(3, .int _), (2, .int _), (0, .ref _), (1, .int _)]) d_Model_look_94 rfl (Nat.le_of_ble_eq_true rfl) rfl ?_
      exact aw_pick [2, 1, 0] rfl (ih_3 _ _ _ _ _ _ _ _ h)
    rw [if_neg c27_1] at h
    by_cases c27_2 : x1 = (2 : Int32)
    · rw [if_pos c27_2] at h
      have hx : (x1).toInt = (2 : Int) := by rw [c27_2]; rfl
      refine aw_tableIn (off := 98) (tgt := 125) d_Model_look_27 (by rw [hx]; decide) (by rw [hx]; decide) (by rw [hx]; rfl) (by decide) ?_
      refine aw_aload_n d_Model_look_125 rfl rfl ?_
      obtain ⟨t126, e_t126, h⟩ := q_bind h
      refine aw_gti d_Model_look_126 fl_Model_222 (Or.inl rfl) e_t126 ?_
      cases h
      exact aw_ireturn d_Model_look_129 rfl (Nat.le_of_ble_eq_true rfl) (Nat.le_of_ble_eq_true rfl) ⟨rfl, rfl⟩
    rw [if_neg c27_2] at h
    by_cases c27_3 : x1 = (3 : Int32)
    · rw [if_pos c27_3] at h
      have hx : (x1).toInt = (3 : Int) := by rw [c27_3]; rfl
      refine aw_tableIn (off := 103) (tgt := 130) d_Model_look_27 (by rw [hx]; decide) (by rw [hx]; decide) (by rw [hx]; rfl) (by decide) ?_
      refine aw_aload_n d_Model_look_130 rfl rfl ?_
      obtain ⟨t131, e_t131, h⟩ := q_bind h
      refine aw_gti d_Model_look_131 fl_Model_102 (Or.inl rfl) e_t131 ?_
      cases h
      exact aw_ireturn d_Model_look_134 rfl (Nat.le_of_ble_eq_true rfl) (Nat.le_of_ble_eq_true rfl) ⟨rfl, rfl⟩
    rw [if_neg c27_3] at h
    by_cases c27_4 : x1 = (4 : Int32)
    · rw [if_pos c27_4] at h
      have hx : (x1).toInt = (4 : Int) := by rw [c27_4]; rfl
      refine aw_tableIn (off := 108) (tgt := 135) d_Model_look_27 (by rw [hx]; decide) (by rw [hx]; decide) (by rw [hx]; rfl) (by decide) ?_
      refine aw_iconst (v := 0) d_Model_look_135 (by decide) ?_
      refine aw_istore_n (ls' := [(3, .int _), (2, .int _), (0, .ref _), (1, .int _)]) d_Model_look_136 rfl (Nat.le_of_ble_eq_true rfl) rfl ?_
      exact aw_pick [2, 1, 0] rfl (ih_5 _ _ _ _ _ _ _ _ h)
    rw [if_neg c27_4] at h
    refine aw_tableOut (tgt := 179) d_Model_look_27 (by have z0 := lv_neT c27_0 (a := 0) rfl; have z1 := lv_neT c27_1 (a := 1) rfl; have z2 := lv_neT c27_2 (a := 2) rfl; have z3 := lv_neT c27_3 (a := 3) rfl; have z4 := lv_neT c27_4 (a := 4) rfl; omega) (by decide) ?_
    refine aw_iconst (v := 0) d_Model_look_179 (by decide) ?_
    refine aw_istore_n (ls' := [(3, .int _), (2, .int _), (0, .ref _), (1, .int _)]) d_Model_look_180 rfl (Nat.le_of_ble_eq_true rfl) rfl ?_
    exact aw_pick [2, 1, 0] rfl (ih_7 _ _ _ _ _ _ _ _ h)
  · rw [if_neg hc] at h
    refine aw_iconst (v := 0) d_Model_look_22 (by decide) ?_
    cases h
    exact aw_ireturn d_Model_look_23 rfl (Nat.le_of_ble_eq_true rfl) (Nat.le_of_ble_eq_true rfl) ⟨rfl, rfl⟩
set_option maxHeartbeats 4000000 in
theorem s_Model_look_1 {rc : Nat → Nat → Int32 → Int32 → Int32 → Int32 → Int32 → Nat → am_M → Option (Int32 × am_M)} {res : Int32} {M' : am_M} (ih_0 : ∀ (r0 : Nat) (x1 : Int32) (x2 : Int32) (x3 : Int32) (s0 : Int32) (s1 : Int32) (sr1 : Nat) (M : am_M), rc 0 r0 x1 x2 x3 s0 s1 sr1 M = some (res, M') → AW u_Model_look R_Model_look 0 0 15 [(0, .ref r0), (1, .int x1)] [.int s0, .ref sr1] M (fun r M2 => r = .inl (some (.int res)) ∧ M2 = M')) (ih_1 : ∀ (r0 : Nat) (x1 : Int32) (x2 : Int32) (x3 : Int32) (s0 : Int32) (s1 : Int32) (sr1 : Nat) (M : am_M), rc 1 r0 x1 x2 x3 s0 s1 sr1 M = some (res, M') → AW u_Model_look R_Model_look 0 0 62 [(0, .ref r0), (2, .int x2), (3, .int x3)] [] M (fun r M2 => r = .inl (some (.int res)) ∧ M2 = M')) (ih_2 : ∀ (r0 : Nat) (x1 : Int32) (x2 : Int32) (x3 : Int32) (s0 : Int32) (s1 : Int32) (sr1 : Nat) (M : am_M), rc 2 r0 x1 x2 x3 s0 s1 sr1 M = some (res, M') → AW u_Model_look R_Model_look 0 0 83 [(0, .ref r0), (3, .int x3)] [.int s0, .int s1] M (fun r M2 => r = .inl (some (.int res)) ∧ M2 = M')) (ih_3 : ∀ (r0 : Nat) (x1 : Int32) (x2 : Int32) (x3 : Int32) (s0 : Int32) (s1 : Int32) (sr1 : Nat) (M : am_M), rc 3 r0 x1 x2 x3 s0 s1 sr1 M = some (res, M') → AW u_Model_look R_Model_look 0 0 95 [(0, .ref r0), (2, .int x2), (3, .int x3)] [] M (fun r M2 => r = .inl (some (.int res)) ∧ M2 = M')) (ih_4 : ∀ (r0 : Nat) (x1 : Int32) (x2 : Int32) (x3 : Int32) (s0 : Int32) (s1 : Int32) (sr1 : Nat) (M : am_M), rc 4 r0 x1 x2 x3 s0 s1 sr1 M = some (res, M') → AW u_Model_look R_Model_look 0 0 115 [(0, .ref r0), (3, .int x3)] [.int s0, .int s1] M (fun r M2 => r = .inl (some (.int res)) ∧ M2 = M')) (ih_5 : ∀ (r0 : Nat) (x1 : Int32) (x2 : Int32) (x3 : Int32) (s0 : Int32) (s1 : Int32) (sr1 : Nat) (M : am_M), rc 5 r0 x1 x2 x3 s0 s1 sr1 M = some (res, M') → AW u_Model_look R_Model_look 0 0 137 [(0, .ref r0), (2, .int x2), (3, .int x3)] [] M (fun r M2 => r = .inl (some (.int res)) ∧ M2 = M')) (ih_6 : ∀ (r0 : Nat) (x1 : Int32) (x2 : Int32) (x3 : Int32) (s0 : Int32) (s1 : Int32) (sr1 : Nat) (M : am_M), rc 6 r0 x1 x2 x3 s0 s1 sr1 M = some (res, M') → AW u_Model_look R_Model_look 0 0 158 [(0, .ref r0), (3, .int x3)] [.int s0, .int s1] M (fun r M2 => r = .inl (some (.int res)) ∧ M2 = M')) (ih_7 : ∀ (r0 : Nat) (x1 : Int32) (x2 : Int32) (x3 : Int32) (s0 : Int32) (s1 : Int32) (sr1 : Nat) (M : am_M), rc 7 r0 x1 x2 x3 s0 s1 sr1 M = some (res, M') → AW u_Model_look R_Model_look 0 0 181 [(0, .ref r0), (2, .int x2), (3, .int x3)] [] M (fun r M2 => r = .inl (some (.int res)) ∧ M2 = M')) (ih_8 : ∀ (r0 : Nat) (x1 : Int32) (x2 : Int32) (x3 : Int32) (s0 : Int32) (s1 : Int32) (sr1 : Nat) (M : am_M), rc 8 r0 x1 x2 x3 s0 s1 sr1 M = some (res, M') → AW u_Model_look R_Model_look 0 0 202 [(0, .ref r0), (3, .int x3)] [.int s0, .int s1] M (fun r M2 => r = .inl (some (.int res)) ∧ M2 = M')) : ∀ (r0 : Nat) (x1 : Int32) (x2 : Int32) (x3 : Int32) (s0 : Int32) (s1 : Int32) (sr1 : Nat) (M : am_M), a_Model_look_1 rc r0 x1 x2 x3 s0 s1 sr1 M = some (res, M') → AW u_Model_look R_Model_look 0 0 62 [(0, .ref r0), (2, .int x2), (3, .int x3)] [] M (fun r M2 => r = .inl (some (.int res)) ∧ M2 = M') := by
  intro r0 x1 x2 x3 s0 s1 sr1 M h
  unfold a_Model_look_1 at h
  refine aw_iload_n d_Model_look_62 rfl rfl ?_
  refine aw_bipush (v := 12) d_Model_look_63 (by decide) ?_
  refine aw_icmp_ge (tgt := 91) d_Model_look_65 (by decide) (fun hc => ?_) (fun hc => ?_)
  · rw [if_pos hc] at h
    refine aw_iload_n d_Model_look_91 rfl rfl ?_
    cases h
    exact aw_ireturn d_Model_look_92 rfl (Nat.le_of_ble_eq_true rfl) (Nat.le_of_ble_eq_true rfl) ⟨rfl, rfl⟩
  · rw [if_neg hc] at h
    refine aw_iload_n d_Model_look_68 rfl rfl ?_
    refine aw_aload_n d_Model_look_69 rfl rfl ?_
    obtain ⟨t70, e_t70, h⟩ := q_bind h
    refine aw_gtr d_Model_look_70 fl_Model_27 (Or.inr ⟨_, rfl⟩) e_t70 ?_
    refine aw_iload_n d_Model_look_73 rfl rfl ?_
    obtain ⟨t74, e_t74, h⟩ := q_bind h
    refine aw_ldz d_Model_look_74 e_t74 ?_
    refine aw_if_eq (tgt := 82) d_Model_look_75 (by decide) (fun hc => ?_) (fun hc => ?_)
    · rw [if_pos hc] at h
      refine aw_iconst (v := 0) d_Model_look_82 (by decide) ?_
      exact aw_pick [0, 2] rfl (ih_2 _ _ _ _ _ _ _ _ h)
    · rw [if_neg hc] at h
      refine aw_iconst (v := 1) d_Model_look_78 (by decide) ?_
      refine aw_goto (tgt := 83) d_Model_look_79 (by decide) ?_
      exact aw_pick [0, 2] rfl (ih_2 _ _ _ _ _ _ _ _ h)
set_option maxHeartbeats 4000000 in
theorem s_Model_look_2 {rc : Nat → Nat → Int32 → Int32 → Int32 → Int32 → Int32 → Nat → am_M → Option (Int32 × am_M)} {res : Int32} {M' : am_M} (ih_0 : ∀ (r0 : Nat) (x1 : Int32) (x2 : Int32) (x3 : Int32) (s0 : Int32) (s1 : Int32) (sr1 : Nat) (M : am_M), rc 0 r0 x1 x2 x3 s0 s1 sr1 M = some (res, M') → AW u_Model_look R_Model_look 0 0 15 [(0, .ref r0), (1, .int x1)] [.int s0, .ref sr1] M (fun r M2 => r = .inl (some (.int res)) ∧ M2 = M')) (ih_1 : ∀ (r0 : Nat) (x1 : Int32) (x2 : Int32) (x3 : Int32) (s0 : Int32) (s1 : Int32) (sr1 : Nat) (M : am_M), rc 1 r0 x1 x2 x3 s0 s1 sr1 M = some (res, M') → AW u_Model_look R_Model_look 0 0 62 [(0, .ref r0), (2, .int x2), (3, .int x3)] [] M (fun r M2 => r = .inl (some (.int res)) ∧ M2 = M')) (ih_2 : ∀ (r0 : Nat) (x1 : Int32) (x2 : Int32) (x3 : Int32) (s0 : Int32) (s1 : Int32) (sr1 : Nat) (M : am_M), rc 2 r0 x1 x2 x3 s0 s1 sr1 M = some (res, M') → AW u_Model_look R_Model_look 0 0 83 [(0, .ref r0), (3, .int x3)] [.int s0, .int s1] M (fun r M2 => r = .inl (some (.int res)) ∧ M2 = M')) (ih_3 : ∀ (r0 : Nat) (x1 : Int32) (x2 : Int32) (x3 : Int32) (s0 : Int32) (s1 : Int32) (sr1 : Nat) (M : am_M), rc 3 r0 x1 x2 x3 s0 s1 sr1 M = some (res, M') → AW u_Model_look R_Model_look 0 0 95 [(0, .ref r0), (2, .int x2), (3, .int x3)] [] M (fun r M2 => r = .inl (some (.int res)) ∧ M2 = M')) (ih_4 : ∀ (r0 : Nat) (x1 : Int32) (x2 : Int32) (x3 : Int32) (s0 : Int32) (s1 : Int32) (sr1 : Nat) (M : am_M), rc 4 r0 x1 x2 x3 s0 s1 sr1 M = some (res, M') → AW u_Model_look R_Model_look 0 0 115 [(0, .ref r0), (3, .int x3)] [.int s0, .int s1] M (fun r M2 => r = .inl (some (.int res)) ∧ M2 = M')) (ih_5 : ∀ (r0 : Nat) (x1 : Int32) (x2 : Int32) (x3 : Int32) (s0 : Int32) (s1 : Int32) (sr1 : Nat) (M : am_M), rc 5 r0 x1 x2 x3 s0 s1 sr1 M = some (res, M') → AW u_Model_look R_Model_look 0 0 137 [(0, .ref r0), (2, .int x2), (3, .int x3)] [] M (fun r M2 => r = .inl (some (.int res)) ∧ M2 = M')) (ih_6 : ∀ (r0 : Nat) (x1 : Int32) (x2 : Int32) (x3 : Int32) (s0 : Int32) (s1 : Int32) (sr1 : Nat) (M : am_M), rc 6 r0 x1 x2 x3 s0 s1 sr1 M = some (res, M') → AW u_Model_look R_Model_look 0 0 158 [(0, .ref r0), (3, .int x3)] [.int s0, .int s1] M (fun r M2 => r = .inl (some (.int res)) ∧ M2 = M')) (ih_7 : ∀ (r0 : Nat) (x1 : Int32) (x2 : Int32) (x3 : Int32) (s0 : Int32) (s1 : Int32) (sr1 : Nat) (M : am_M), rc 7 r0 x1 x2 x3 s0 s1 sr1 M = some (res, M') → AW u_Model_look R_Model_look 0 0 181 [(0, .ref r0), (2, .int x2), (3, .int x3)] [] M (fun r M2 => r = .inl (some (.int res)) ∧ M2 = M')) (ih_8 : ∀ (r0 : Nat) (x1 : Int32) (x2 : Int32) (x3 : Int32) (s0 : Int32) (s1 : Int32) (sr1 : Nat) (M : am_M), rc 8 r0 x1 x2 x3 s0 s1 sr1 M = some (res, M') → AW u_Model_look R_Model_look 0 0 202 [(0, .ref r0), (3, .int x3)] [.int s0, .int s1] M (fun r M2 => r = .inl (some (.int res)) ∧ M2 = M')) : ∀ (r0 : Nat) (x1 : Int32) (x2 : Int32) (x3 : Int32) (s0 : Int32) (s1 : Int32) (sr1 : Nat) (M : am_M), a_Model_look_2 rc r0 x1 x2 x3 s0 s1 sr1 M = some (res, M') → AW u_Model_look R_Model_look 0 0 83 [(0, .ref r0), (3, .int x3)] [.int s0, .int s1] M (fun r M2 => r = .inl (some (.int res)) ∧ M2 = M') := by
  intro r0 x1 x2 x3 s0 s1 sr1 M h
  unfold a_Model_look_2 at h
  refine aw_iadd d_Model_look_83 ?_
  refine aw_istore_n (ls' := [(2, .int _), (0, .ref _), (3, .int _)]) d_Model_look_84 rfl (Nat.le_of_ble_eq_true rfl) rfl ?_
  refine aw_iinc (v := (x3 + (1 : Int32))) (ls' := [(3, .int _), (2, .int _), (0, .ref _)]) d_Model_look_85 rfl rfl (Nat.le_of_ble_eq_true rfl) rfl ?_
  refine aw_goto (tgt := 62) d_Model_look_88 (by decide) ?_
  exact aw_pick [2, 1, 0] rfl (ih_1 _ _ _ _ _ _ _ _ h)
set_option maxHeartbeats 4000000 in
theorem s_Model_look_3 {rc : Nat → Nat → Int32 → Int32 → Int32 → Int32 → Int32 → Nat → am_M → Option (Int32 × am_M)} {res : Int32} {M' : am_M} (ih_0 : ∀ (r0 : Nat) (x1 : Int32) (x2 : Int32) (x3 : Int32) (s0 : Int32) (s1 : Int32) (sr1 : Nat) (M : am_M), rc 0 r0 x1 x2 x3 s0 s1 sr1 M = some (res, M') → AW u_Model_look R_Model_look 0 0 15 [(0, .ref r0), (1, .int x1)] [.int s0, .ref sr1] M (fun r M2 => r = .inl (some (.int res)) ∧ M2 = M')) (ih_1 : ∀ (r0 : Nat) (x1 : Int32) (x2 : Int32) (x3 : Int32) (s0 : Int32) (s1 : Int32) (sr1 : Nat) (M : am_M), rc 1 r0 x1 x2 x3 s0 s1 sr1 M = some (res, M') → AW u_Model_look R_Model_look 0 0 62 [(0, .ref r0), (2, .int x2), (3, .int x3)] [] M (fun r M2 => r = .inl (some (.int res)) ∧ M2 = M')) (ih_2 : ∀ (r0 : Nat) (x1 : Int32) (x2 : Int32) (x3 : Int32) (s0 : Int32) (s1 : Int32) (sr1 : Nat) (M : am_M), rc 2 r0 x1 x2 x3 s0 s1 sr1 M = some (res, M') → AW u_Model_look R_Model_look 0 0 83 [(0, .ref r0), (3, .int x3)] [.int s0, .int s1] M (fun r M2 => r = .inl (some (.int res)) ∧ M2 = M')) (ih_3 : ∀ (r0 : Nat) (x1 : Int32) (x2 : Int32) (x3 : Int32) (s0 : Int32) (s1 : Int32) (sr1 : Nat) (M : am_M), rc 3 r0 x1 x2 x3 s0 s1 sr1 M = some (res, M') → AW u_Model_look R_Model_look 0 0 95 [(0, .ref r0), (2, .int x2), (3, .int x3)] [] M (fun r M2 => r = .inl (some (.int res)) ∧ M2 = M')) (ih_4 : ∀ (r0 : Nat) (x1 : Int32) (x2 : Int32) (x3 : Int32) (s0 : Int32) (s1 : Int32) (sr1 : Nat) (M : am_M), rc 4 r0 x1 x2 x3 s0 s1 sr1 M = some (res, M') → AW u_Model_look R_Model_look 0 0 115 [(0, .ref r0), (3, .int x3)] [.int s0, .int s1] M (fun r M2 => r = .inl (some (.int res)) ∧ M2 = M')) (ih_5 : ∀ (r0 : Nat) (x1 : Int32) (x2 : Int32) (x3 : Int32) (s0 : Int32) (s1 : Int32) (sr1 : Nat) (M : am_M), rc 5 r0 x1 x2 x3 s0 s1 sr1 M = some (res, M') → AW u_Model_look R_Model_look 0 0 137 [(0, .ref r0), (2, .int x2), (3, .int x3)] [] M (fun r M2 => r = .inl (some (.int res)) ∧ M2 = M')) (ih_6 : ∀ (r0 : Nat) (x1 : Int32) (x2 : Int32) (x3 : Int32) (s0 : Int32) (s1 : Int32) (sr1 : Nat) (M : am_M), rc 6 r0 x1 x2 x3 s0 s1 sr1 M = some (res, M') → AW u_Model_look R_Model_look 0 0 158 [(0, .ref r0), (3, .int x3)] [.int s0, .int s1] M (fun r M2 => r = .inl (some (.int res)) ∧ M2 = M')) (ih_7 : ∀ (r0 : Nat) (x1 : Int32) (x2 : Int32) (x3 : Int32) (s0 : Int32) (s1 : Int32) (sr1 : Nat) (M : am_M), rc 7 r0 x1 x2 x3 s0 s1 sr1 M = some (res, M') → AW u_Model_look R_Model_look 0 0 181 [(0, .ref r0), (2, .int x2), (3, .int x3)] [] M (fun r M2 => r = .inl (some (.int res)) ∧ M2 = M')) (ih_8 : ∀ (r0 : Nat) (x1 : Int32) (x2 : Int32) (x3 : Int32) (s0 : Int32) (s1 : Int32) (sr1 : Nat) (M : am_M), rc 8 r0 x1 x2 x3 s0 s1 sr1 M = some (res, M') → AW u_Model_look R_Model_look 0 0 202 [(0, .ref r0), (3, .int x3)] [.int s0, .int s1] M (fun r M2 => r = .inl (some (.int res)) ∧ M2 = M')) : ∀ (r0 : Nat) (x1 : Int32) (x2 : Int32) (x3 : Int32) (s0 : Int32) (s1 : Int32) (sr1 : Nat) (M : am_M), a_Model_look_3 rc r0 x1 x2 x3 s0 s1 sr1 M = some (res, M') → AW u_Model_look R_Model_look 0 0 95 [(0, .ref r0), (2, .int x2), (3, .int x3)] [] M (fun r M2 => r = .inl (some (.int res)) ∧ M2 = M') := by
  intro r0 x1 x2 x3 s0 s1 sr1 M h
  unfold a_Model_look_3 at h
  refine aw_iload_n d_Model_look_95 rfl rfl ?_
  refine aw_iconst (v := 4) d_Model_look_96 (by decide) ?_
  refine aw_icmp_ge (tgt := 123) d_Model_look_97 (by decide) (fun hc => ?_) (fun hc => ?_)
  · rw [if_pos hc] at h
    refine aw_iload_n d_Model_look_123 rfl rfl ?_
    cases h
    exact aw_ireturn d_Model_look_124 rfl (Nat.le_of_ble_eq_true rfl) (Nat.le_of_ble_eq_true rfl) ⟨rfl, rfl⟩
  · rw [if_neg hc] at h
    refine aw_iload_n d_Model_look_100 rfl rfl ?_
    refine aw_aload_n d_Model_look_101 rfl rfl ?_
    obtain ⟨t102, e_t102, h⟩ := q_bind h
    refine aw_gtr d_Model_look_102 fl_Model_45 (Or.inr ⟨_, rfl⟩) e_t102 ?_
    refine aw_iload_n d_Model_look_105 rfl rfl ?_
    obtain ⟨t106, e_t106, h⟩ := q_bind h
    refine aw_ldz d_Model_look_106 e_t106 ?_
    refine aw_if_eq (tgt := 114) d_Model_look_107 (by decide) (fun hc => ?_) (fun hc => ?_)
    · rw [if_pos hc] at h
      refine aw_iconst (v := 0) d_Model_look_114 (by decide) ?_
      exact aw_pick [0, 2] rfl (ih_4 _ _ _ _ _ _ _ _ h)
    · rw [if_neg hc] at h
      refine aw_iconst (v := 1) d_Model_look_110 (by decide) ?_
      refine aw_goto (tgt := 115) d_Model_look_111 (by decide) ?_
      exact aw_pick [0, 2] rfl (ih_4 _ _ _ _ _ _ _ _ h)
set_option maxHeartbeats 4000000 in
theorem s_Model_look_4 {rc : Nat → Nat → Int32 → Int32 → Int32 → Int32 → Int32 → Nat → am_M → Option (Int32 × am_M)} {res : Int32} {M' : am_M} (ih_0 : ∀ (r0 : Nat) (x1 : Int32) (x2 : Int32) (x3 : Int32) (s0 : Int32) (s1 : Int32) (sr1 : Nat) (M : am_M), rc 0 r0 x1 x2 x3 s0 s1 sr1 M = some (res, M') → AW u_Model_look R_Model_look 0 0 15 [(0, .ref r0), (1, .int x1)] [.int s0, .ref sr1] M (fun r M2 => r = .inl (some (.int res)) ∧ M2 = M')) (ih_1 : ∀ (r0 : Nat) (x1 : Int32) (x2 : Int32) (x3 : Int32) (s0 : Int32) (s1 : Int32) (sr1 : Nat) (M : am_M), rc 1 r0 x1 x2 x3 s0 s1 sr1 M = some (res, M') → AW u_Model_look R_Model_look 0 0 62 [(0, .ref r0), (2, .int x2), (3, .int x3)] [] M (fun r M2 => r = .inl (some (.int res)) ∧ M2 = M')) (ih_2 : ∀ (r0 : Nat) (x1 : Int32) (x2 : Int32) (x3 : Int32) (s0 : Int32) (s1 : Int32) (sr1 : Nat) (M : am_M), rc 2 r0 x1 x2 x3 s0 s1 sr1 M = some (res, M') → AW u_Model_look R_Model_look 0 0 83 [(0, .ref r0), (3, .int x3)] [.int s0, .int s1] M (fun r M2 => r = .inl (some (.int res)) ∧ M2 = M')) (ih_3 : ∀ (r0 : Nat) (x1 : Int32) (x2 : Int32) (x3 : Int32) (s0 : Int32) (s1 : Int32) (sr1 : Nat) (M : am_M), rc 3 r0 x1 x2 x3 s0 s1 sr1 M = some (res, M') → AW u_Model_look R_Model_look 0 0 95 [(0, .ref r0), (2, .int x2), (3, .int x3)] [] M (fun r M2 => r = .inl (some (.int res)) ∧ M2 = M')) (ih_4 : ∀ (r0 : Nat) (x1 : Int32) (x2 : Int32) (x3 : Int32) (s0 : Int32) (s1 : Int32) (sr1 : Nat) (M : am_M), rc 4 r0 x1 x2 x3 s0 s1 sr1 M = some (res, M') → AW u_Model_look R_Model_look 0 0 115 [(0, .ref r0), (3, .int x3)] [.int s0, .int s1] M (fun r M2 => r = .inl (some (.int res)) ∧ M2 = M')) (ih_5 : ∀ (r0 : Nat) (x1 : Int32) (x2 : Int32) (x3 : Int32) (s0 : Int32) (s1 : Int32) (sr1 : Nat) (M : am_M), rc 5 r0 x1 x2 x3 s0 s1 sr1 M = some (res, M') → AW u_Model_look R_Model_look 0 0 137 [(0, .ref r0), (2, .int x2), (3, .int x3)] [] M (fun r M2 => r = .inl (some (.int res)) ∧ M2 = M')) (ih_6 : ∀ (r0 : Nat) (x1 : Int32) (x2 : Int32) (x3 : Int32) (s0 : Int32) (s1 : Int32) (sr1 : Nat) (M : am_M), rc 6 r0 x1 x2 x3 s0 s1 sr1 M = some (res, M') → AW u_Model_look R_Model_look 0 0 158 [(0, .ref r0), (3, .int x3)] [.int s0, .int s1] M (fun r M2 => r = .inl (some (.int res)) ∧ M2 = M')) (ih_7 : ∀ (r0 : Nat) (x1 : Int32) (x2 : Int32) (x3 : Int32) (s0 : Int32) (s1 : Int32) (sr1 : Nat) (M : am_M), rc 7 r0 x1 x2 x3 s0 s1 sr1 M = some (res, M') → AW u_Model_look R_Model_look 0 0 181 [(0, .ref r0), (2, .int x2), (3, .int x3)] [] M (fun r M2 => r = .inl (some (.int res)) ∧ M2 = M')) (ih_8 : ∀ (r0 : Nat) (x1 : Int32) (x2 : Int32) (x3 : Int32) (s0 : Int32) (s1 : Int32) (sr1 : Nat) (M : am_M), rc 8 r0 x1 x2 x3 s0 s1 sr1 M = some (res, M') → AW u_Model_look R_Model_look 0 0 202 [(0, .ref r0), (3, .int x3)] [.int s0, .int s1] M (fun r M2 => r = .inl (some (.int res)) ∧ M2 = M')) : ∀ (r0 : Nat) (x1 : Int32) (x2 : Int32) (x3 : Int32) (s0 : Int32) (s1 : Int32) (sr1 : Nat) (M : am_M), a_Model_look_4 rc r0 x1 x2 x3 s0 s1 sr1 M = some (res, M') → AW u_Model_look R_Model_look 0 0 115 [(0, .ref r0), (3, .int x3)] [.int s0, .int s1] M (fun r M2 => r = .inl (some (.int res)) ∧ M2 = M') := by
  intro r0 x1 x2 x3 s0 s1 sr1 M h
  unfold a_Model_look_4 at h
  refine aw_iadd d_Model_look_115 ?_
  refine aw_istore_n (ls' := [(2, .int _), (0, .ref _), (3, .int _)]) d_Model_look_116 rfl (Nat.le_of_ble_eq_true rfl) rfl ?_
  refine aw_iinc (v := (x3 + (1 : Int32))) (ls' := [(3, .int _), (2, .int _), (0, .ref _)]) d_Model_look_117 rfl rfl (Nat.le_of_ble_eq_true rfl) rfl ?_
  refine aw_goto (tgt := 95) d_Model_look_120 (by decide) ?_
  exact aw_pick [2, 1, 0] rfl (ih_3 _ _ _ _ _ _ _ _ h)
set_option maxHeartbeats 4000000 in
theorem s_Model_look_5 {rc : Nat → Nat → Int32 → Int32 → Int32 → Int32 → Int32 → Nat → am_M → Option (Int32 × am_M)} {res : Int32} {M' : am_M} (ih_0 : ∀ (r0 : Nat) (x1 : Int32) (x2 : Int32) (x3 : Int32) (s0 : Int32) (s1 : Int32) (sr1 : Nat) (M : am_M), rc 0 r0 x1 x2 x3 s0 s1 sr1 M = some (res, M') → AW u_Model_look R_Model_look 0 0 15 [(0, .ref r0), (1, .int x1)] [.int s0, .ref sr1] M (fun r M2 => r = .inl (some (.int res)) ∧ M2 = M')) (ih_1 : ∀ (r0 : Nat) (x1 : Int32) (x2 : Int32) (x3 : Int32) (s0 : Int32) (s1 : Int32) (sr1 : Nat) (M : am_M), rc 1 r0 x1 x2 x3 s0 s1 sr1 M = some (res, M') → AW u_Model_look R_Model_look 0 0 62 [(0, .ref r0), (2, .int x2), (3, .int x3)] [] M (fun r M2 => r = .inl (some (.int res)) ∧ M2 = M')) (ih_2 : ∀ (r0 : Nat) (x1 : Int32) (x2 : Int32) (x3 : Int32) (s0 : Int32) (s1 : Int32) (sr1 : Nat) (M : am_M), rc 2 r0 x1 x2 x3 s0 s1 sr1 M = some (res, M') → AW u_Model_look R_Model_look 0 0 83 [(0, .ref r0), (3, .int x3)] [.int s0, .int s1] M (fun r M2 => r = .inl (some (.int res)) ∧ M2 = M')) (ih_3 : ∀ (r0 : Nat) (x1 : Int32) (x2 : Int32) (x3 : Int32) (s0 : Int32) (s1 : Int32) (sr1 : Nat) (M : am_M), rc 3 r0 x1 x2 x3 s0 s1 sr1 M = some (res, M') → AW u_Model_look R_Model_look 0 0 95 [(0, .ref r0), (2, .int x2), (3, .int x3)] [] M (fun r M2 => r = .inl (some (.int res)) ∧ M2 = M')) (ih_4 : ∀ (r0 : Nat) (x1 : Int32) (x2 : Int32) (x3 : Int32) (s0 : Int32) (s1 : Int32) (sr1 : Nat) (M : am_M), rc 4 r0 x1 x2 x3 s0 s1 sr1 M = some (res, M') → AW u_Model_look R_Model_look 0 0 115 [(0, .ref r0), (3, .int x3)] [.int s0, .int s1] M (fun r M2 => r = .inl (some (.int res)) ∧ M2 = M')) (ih_5 : ∀ (r0 : Nat) (x1 : Int32) (x2 : Int32) (x3 : Int32) (s0 : Int32) (s1 : Int32) (sr1 : Nat) (M : am_M), rc 5 r0 x1 x2 x3 s0 s1 sr1 M = some (res, M') → AW u_Model_look R_Model_look 0 0 137 [(0, .ref r0), (2, .int x2), (3, .int x3)] [] M (fun r M2 => r = .inl (some (.int res)) ∧ M2 = M')) (ih_6 : ∀ (r0 : Nat) (x1 : Int32) (x2 : Int32) (x3 : Int32) (s0 : Int32) (s1 : Int32) (sr1 : Nat) (M : am_M), rc 6 r0 x1 x2 x3 s0 s1 sr1 M = some (res, M') → AW u_Model_look R_Model_look 0 0 158 [(0, .ref r0), (3, .int x3)] [.int s0, .int s1] M (fun r M2 => r = .inl (some (.int res)) ∧ M2 = M')) (ih_7 : ∀ (r0 : Nat) (x1 : Int32) (x2 : Int32) (x3 : Int32) (s0 : Int32) (s1 : Int32) (sr1 : Nat) (M : am_M), rc 7 r0 x1 x2 x3 s0 s1 sr1 M = some (res, M') → AW u_Model_look R_Model_look 0 0 181 [(0, .ref r0), (2, .int x2), (3, .int x3)] [] M (fun r M2 => r = .inl (some (.int res)) ∧ M2 = M')) (ih_8 : ∀ (r0 : Nat) (x1 : Int32) (x2 : Int32) (x3 : Int32) (s0 : Int32) (s1 : Int32) (sr1 : Nat) (M : am_M), rc 8 r0 x1 x2 x3 s0 s1 sr1 M = some (res, M') → AW u_Model_look R_Model_look 0 0 202 [(0, .ref r0), (3, .int x3)] [.int s0, .int s1] M (fun r M2 => r = .inl (some (.int res)) ∧ M2 = M')) : ∀ (r0 : Nat) (x1 : Int32) (x2 : Int32) (x3 : Int32) (s0 : Int32) (s1 : Int32) (sr1 : Nat) (M : am_M), a_Model_look_5 rc r0 x1 x2 x3 s0 s1 sr1 M = some (res, M') → AW u_Model_look R_Model_look 0 0 137 [(0, .ref r0), (2, .int x2), (3, .int x3)] [] M (fun r M2 => r = .inl (some (.int res)) ∧ M2 = M') := by
  intro r0 x1 x2 x3 s0 s1 sr1 M h
  unfold a_Model_look_5 at h
  refine aw_iload_n d_Model_look_137 rfl rfl ?_
  refine aw_bipush (v := 40) d_Model_look_138 (by decide) ?_
  refine aw_icmp_ge (tgt := 166) d_Model_look_140 (by decide) (fun hc => ?_) (fun hc => ?_)
  · rw [if_pos hc] at h
    refine aw_aload_n d_Model_look_166 rfl rfl ?_
    obtain ⟨t167, e_t167, h⟩ := q_bind h
    refine aw_gti d_Model_look_167 fl_Model_161 (Or.inr rfl) e_t167 ?_
    refine aw_if_eq (tgt := 177) d_Model_look_170 (by decide) (fun hc => ?_) (fun hc => ?_)
    · rw [if_pos hc] at h
      refine aw_iconst (v := -1) d_Model_look_177 (by decide) ?_
      cases h
      exact aw_ireturn d_Model_look_178 rfl (Nat.le_of_ble_eq_true rfl) (Nat.le_of_ble_eq_true rfl) ⟨rfl, rfl⟩
    · rw [if_neg hc] at h
      refine aw_iload_n d_Model_look_173 rfl rfl ?_
      refine aw_goto (tgt := 178) d_Model_look_174 (by decide) ?_
      cases h
      exact aw_ireturn d_Model_look_178 rfl (Nat.le_of_ble_eq_true rfl) (Nat.le_of_ble_eq_true rfl) ⟨rfl, rfl⟩
  · rw [if_neg hc] at h
    refine aw_iload_n d_Model_look_143 rfl rfl ?_
    refine aw_aload_n d_Model_look_144 rfl rfl ?_
    obtain ⟨t145, e_t145, h⟩ := q_bind h
    refine aw_gtr d_Model_look_145 fl_Model_124 (Or.inr ⟨_, rfl⟩) e_t145 ?_
    refine aw_iload_n d_Model_look_148 rfl rfl ?_
    obtain ⟨t149, e_t149, h⟩ := q_bind h
    refine aw_ldz d_Model_look_149 e_t149 ?_
    refine aw_if_eq (tgt := 157) d_Model_look_150 (by decide) (fun hc => ?_) (fun hc => ?_)
    · rw [if_pos hc] at h
      refine aw_iconst (v := 0) d_Model_look_157 (by decide) ?_
      exact aw_pick [0, 2] rfl (ih_6 _ _ _ _ _ _ _ _ h)
    · rw [if_neg hc] at h
      refine aw_iconst (v := 1) d_Model_look_153 (by decide) ?_
      refine aw_goto (tgt := 158) d_Model_look_154 (by decide) ?_
      exact aw_pick [0, 2] rfl (ih_6 _ _ _ _ _ _ _ _ h)
set_option maxHeartbeats 4000000 in
theorem s_Model_look_6 {rc : Nat → Nat → Int32 → Int32 → Int32 → Int32 → Int32 → Nat → am_M → Option (Int32 × am_M)} {res : Int32} {M' : am_M} (ih_0 : ∀ (r0 : Nat) (x1 : Int32) (x2 : Int32) (x3 : Int32) (s0 : Int32) (s1 : Int32) (sr1 : Nat) (M : am_M), rc 0 r0 x1 x2 x3 s0 s1 sr1 M = some (res, M') → AW u_Model_look R_Model_look 0 0 15 [(0, .ref r0), (1, .int x1)] [.int s0, .ref sr1] M (fun r M2 => r = .inl (some (.int res)) ∧ M2 = M')) (ih_1 : ∀ (r0 : Nat) (x1 : Int32) (x2 : Int32) (x3 : Int32) (s0 : Int32) (s1 : Int32) (sr1 : Nat) (M : am_M), rc 1 r0 x1 x2 x3 s0 s1 sr1 M = some (res, M') → AW u_Model_look R_Model_look 0 0 62 [(0, .ref r0), (2, .int x2), (3, .int x3)] [] M (fun r M2 => r = .inl (some (.int res)) ∧ M2 = M')) (ih_2 : ∀ (r0 : Nat) (x1 : Int32) (x2 : Int32) (x3 : Int32) (s0 : Int32) (s1 : Int32) (sr1 : Nat) (M : am_M), rc 2 r0 x1 x2 x3 s0 s1 sr1 M = some (res, M') → AW u_Model_look R_Model_look 0 0 83 [(0, .ref r0), (3, .int x3)] [.int s0, .int s1] M (fun r M2 => r = .inl (some (.int res)) ∧ M2 = M')) (ih_3 : ∀ (r0 : Nat) (x1 : Int32) (x2 : Int32) (x3 : Int32) (s0 : Int32) (s1 : Int32) (sr1 : Nat) (M : am_M), rc 3 r0 x1 x2 x3 s0 s1 sr1 M = some (res, M') → AW u_Model_look R_Model_look 0 0 95 [(0, .ref r0), (2, .int x2), (3, .int x3)] [] M (fun r M2 => r = .inl (some (.int res)) ∧ M2 = M')) (ih_4 : ∀ (r0 : Nat) (x1 : Int32) (x2 : Int32) (x3 : Int32) (s0 : Int32) (s1 : Int32) (sr1 : Nat) (M : am_M), rc 4 r0 x1 x2 x3 s0 s1 sr1 M = some (res, M') → AW u_Model_look R_Model_look 0 0 115 [(0, .ref r0), (3, .int x3)] [.int s0, .int s1] M (fun r M2 => r = .inl (some (.int res)) ∧ M2 = M')) (ih_5 : ∀ (r0 : Nat) (x1 : Int32) (x2 : Int32) (x3 : Int32) (s0 : Int32) (s1 : Int32) (sr1 : Nat) (M : am_M), rc 5 r0 x1 x2 x3 s0 s1 sr1 M = some (res, M') → AW u_Model_look R_Model_look 0 0 137 [(0, .ref r0), (2, .int x2), (3, .int x3)] [] M (fun r M2 => r = .inl (some (.int res)) ∧ M2 = M')) (ih_6 : ∀ (r0 : Nat) (x1 : Int32) (x2 : Int32) (x3 : Int32) (s0 : Int32) (s1 : Int32) (sr1 : Nat) (M : am_M), rc 6 r0 x1 x2 x3 s0 s1 sr1 M = some (res, M') → AW u_Model_look R_Model_look 0 0 158 [(0, .ref r0), (3, .int x3)] [.int s0, .int s1] M (fun r M2 => r = .inl (some (.int res)) ∧ M2 = M')) (ih_7 : ∀ (r0 : Nat) (x1 : Int32) (x2 : Int32) (x3 : Int32) (s0 : Int32) (s1 : Int32) (sr1 : Nat) (M : am_M), rc 7 r0 x1 x2 x3 s0 s1 sr1 M = some (res, M') → AW u_Model_look R_Model_look 0 0 181 [(0, .ref r0), (2, .int x2), (3, .int x3)] [] M (fun r M2 => r = .inl (some (.int res)) ∧ M2 = M')) (ih_8 : ∀ (r0 : Nat) (x1 : Int32) (x2 : Int32) (x3 : Int32) (s0 : Int32) (s1 : Int32) (sr1 : Nat) (M : am_M), rc 8 r0 x1 x2 x3 s0 s1 sr1 M = some (res, M') → AW u_Model_look R_Model_look 0 0 202 [(0, .ref r0), (3, .int x3)] [.int s0, .int s1] M (fun r M2 => r = .inl (some (.int res)) ∧ M2 = M')) : ∀ (r0 : Nat) (x1 : Int32) (x2 : Int32) (x3 : Int32) (s0 : Int32) (s1 : Int32) (sr1 : Nat) (M : am_M), a_Model_look_6 rc r0 x1 x2 x3 s0 s1 sr1 M = some (res, M') → AW u_Model_look R_Model_look 0 0 158 [(0, .ref r0), (3, .int x3)] [.int s0, .int s1] M (fun r M2 => r = .inl (some (.int res)) ∧ M2 = M') := by
  intro r0 x1 x2 x3 s0 s1 sr1 M h
  unfold a_Model_look_6 at h
  refine aw_iadd d_Model_look_158 ?_
  refine aw_istore_n (ls' := [(2, .int _), (0, .ref _), (3, .int _)]) d_Model_look_159 rfl (Nat.le_of_ble_eq_true rfl) rfl ?_
  refine aw_iinc (v := (x3 + (1 : Int32))) (ls' := [(3, .int _), (2, .int _), (0, .ref _)]) d_Model_look_160 rfl rfl (Nat.le_of_ble_eq_true rfl) rfl ?_
  refine aw_goto (tgt := 137) d_Model_look_163 (by decide) ?_
  exact aw_pick [2, 1, 0] rfl (ih_5 _ _ _ _ _ _ _ _ h)
set_option maxHeartbeats 4000000 in
theorem s_Model_look_7 {rc : Nat → Nat → Int32 → Int32 → Int32 → Int32 → Int32 → Nat → am_M → Option (Int32 × am_M)} {res : Int32} {M' : am_M} (ih_0 : ∀ (r0 : Nat) (x1 : Int32) (x2 : Int32) (x3 : Int32) (s0 : Int32) (s1 : Int32) (sr1 : Nat) (M : am_M), rc 0 r0 x1 x2 x3 s0 s1 sr1 M = some (res, M') → AW u_Model_look R_Model_look 0 0 15 [(0, .ref r0), (1, .int x1)] [.int s0, .ref sr1] M (fun r M2 => r = .inl (some (.int res)) ∧ M2 = M')) (ih_1 : ∀ (r0 : Nat) (x1 : Int32) (x2 : Int32) (x3 : Int32) (s0 : Int32) (s1 : Int32) (sr1 : Nat) (M : am_M), rc 1 r0 x1 x2 x3 s0 s1 sr1 M = some (res, M') → AW u_Model_look R_Model_look 0 0 62 [(0, .ref r0), (2, .int x2), (3, .int x3)] [] M (fun r M2 => r = .inl (some (.int res)) ∧ M2 = M')) (ih_2 : ∀ (r0 : Nat) (x1 : Int32) (x2 : Int32) (x3 : Int32) (s0 : Int32) (s1 : Int32) (sr1 : Nat) (M : am_M), rc 2 r0 x1 x2 x3 s0 s1 sr1 M = some (res, M') → AW u_Model_look R_Model_look 0 0 83 [(0, .ref r0), (3, .int x3)] [.int s0, .int s1] M (fun r M2 => r = .inl (some (.int res)) ∧ M2 = M')) (ih_3 : ∀ (r0 : Nat) (x1 : Int32) (x2 : Int32) (x3 : Int32) (s0 : Int32) (s1 : Int32) (sr1 : Nat) (M : am_M), rc 3 r0 x1 x2 x3 s0 s1 sr1 M = some (res, M') → AW u_Model_look R_Model_look 0 0 95 [(0, .ref r0), (2, .int x2), (3, .int x3)] [] M (fun r M2 => r = .inl (some (.int res)) ∧ M2 = M')) (ih_4 : ∀ (r0 : Nat) (x1 : Int32) (x2 : Int32) (x3 : Int32) (s0 : Int32) (s1 : Int32) (sr1 : Nat) (M : am_M), rc 4 r0 x1 x2 x3 s0 s1 sr1 M = some (res, M') → AW u_Model_look R_Model_look 0 0 115 [(0, .ref r0), (3, .int x3)] [.int s0, .int s1] M (fun r M2 => r = .inl (some (.int res)) ∧ M2 = M')) (ih_5 : ∀ (r0 : Nat) (x1 : Int32) (x2 : Int32) (x3 : Int32) (s0 : Int32) (s1 : Int32) (sr1 : Nat) (M : am_M), rc 5 r0 x1 x2 x3 s0 s1 sr1 M = some (res, M') → AW u_Model_look R_Model_look 0 0 137 [(0, .ref r0), (2, .int x2), (3, .int x3)] [] M (fun r M2 => r = .inl (some (.int res)) ∧ M2 = M')) (ih_6 : ∀ (r0 : Nat) (x1 : Int32) (x2 : Int32) (x3 : Int32) (s0 : Int32) (s1 : Int32) (sr1 : Nat) (M : am_M), rc 6 r0 x1 x2 x3 s0 s1 sr1 M = some (res, M') → AW u_Model_look R_Model_look 0 0 158 [(0, .ref r0), (3, .int x3)] [.int s0, .int s1] M (fun r M2 => r = .inl (some (.int res)) ∧ M2 = M')) (ih_7 : ∀ (r0 : Nat) (x1 : Int32) (x2 : Int32) (x3 : Int32) (s0 : Int32) (s1 : Int32) (sr1 : Nat) (M : am_M), rc 7 r0 x1 x2 x3 s0 s1 sr1 M = some (res, M') → AW u_Model_look R_Model_look 0 0 181 [(0, .ref r0), (2, .int x2), (3, .int x3)] [] M (fun r M2 => r = .inl (some (.int res)) ∧ M2 = M')) (ih_8 : ∀ (r0 : Nat) (x1 : Int32) (x2 : Int32) (x3 : Int32) (s0 : Int32) (s1 : Int32) (sr1 : Nat) (M : am_M), rc 8 r0 x1 x2 x3 s0 s1 sr1 M = some (res, M') → AW u_Model_look R_Model_look 0 0 202 [(0, .ref r0), (3, .int x3)] [.int s0, .int s1] M (fun r M2 => r = .inl (some (.int res)) ∧ M2 = M')) : ∀ (r0 : Nat) (x1 : Int32) (x2 : Int32) (x3 : Int32) (s0 : Int32) (s1 : Int32) (sr1 : Nat) (M : am_M), a_Model_look_7 rc r0 x1 x2 x3 s0 s1 sr1 M = some (res, M') → AW u_Model_look R_Model_look 0 0 181 [(0, .ref r0), (2, .int x2), (3, .int x3)] [] M (fun r M2 => r = .inl (some (.int res)) ∧ M2 = M') := by
  intro r0 x1 x2 x3 s0 s1 sr1 M h
  unfold a_Model_look_7 at h
  refine aw_iload_n d_Model_look_181 rfl rfl ?_
  refine aw_bipush (v := 40) d_Model_look_182 (by decide) ?_
  refine aw_icmp_ge (tgt := 210) d_Model_look_184 (by decide) (fun hc => ?_) (fun hc => ?_)
  · rw [if_pos hc] at h
    refine aw_iload_n d_Model_look_210 rfl rfl ?_
    cases h
    exact aw_ireturn d_Model_look_211 rfl (Nat.le_of_ble_eq_true rfl) (Nat.le_of_ble_eq_true rfl) ⟨rfl, rfl⟩
  · rw [if_neg hc] at h
    refine aw_iload_n d_Model_look_187 rfl rfl ?_
    refine aw_aload_n d_Model_look_188 rfl rfl ?_
    obtain ⟨t189, e_t189, h⟩ := q_bind h
    refine aw_gtr d_Model_look_189 fl_Model_127 (Or.inr ⟨_, rfl⟩) e_t189 ?_
    refine aw_iload_n d_Model_look_192 rfl rfl ?_
    obtain ⟨t193, e_t193, h⟩ := q_bind h
    refine aw_ldi d_Model_look_193 e_t193 ?_
    refine aw_if_lt (tgt := 201) d_Model_look_194 (by decide) (fun hc => ?_) (fun hc => ?_)
    · rw [if_pos hc] at h
      refine aw_iconst (v := 0) d_Model_look_201 (by decide) ?_
      exact aw_pick [0, 2] rfl (ih_8 _ _ _ _ _ _ _ _ h)
    · rw [if_neg hc] at h
      refine aw_iconst (v := 1) d_Model_look_197 (by decide) ?_
      refine aw_goto (tgt := 202) d_Model_look_198 (by decide) ?_
      exact aw_pick [0, 2] rfl (ih_8 _ _ _ _ _ _ _ _ h)
set_option maxHeartbeats 4000000 in
theorem s_Model_look_8 {rc : Nat → Nat → Int32 → Int32 → Int32 → Int32 → Int32 → Nat → am_M → Option (Int32 × am_M)} {res : Int32} {M' : am_M} (ih_0 : ∀ (r0 : Nat) (x1 : Int32) (x2 : Int32) (x3 : Int32) (s0 : Int32) (s1 : Int32) (sr1 : Nat) (M : am_M), rc 0 r0 x1 x2 x3 s0 s1 sr1 M = some (res, M') → AW u_Model_look R_Model_look 0 0 15 [(0, .ref r0), (1, .int x1)] [.int s0, .ref sr1] M (fun r M2 => r = .inl (some (.int res)) ∧ M2 = M')) (ih_1 : ∀ (r0 : Nat) (x1 : Int32) (x2 : Int32) (x3 : Int32) (s0 : Int32) (s1 : Int32) (sr1 : Nat) (M : am_M), rc 1 r0 x1 x2 x3 s0 s1 sr1 M = some (res, M') → AW u_Model_look R_Model_look 0 0 62 [(0, .ref r0), (2, .int x2), (3, .int x3)] [] M (fun r M2 => r = .inl (some (.int res)) ∧ M2 = M')) (ih_2 : ∀ (r0 : Nat) (x1 : Int32) (x2 : Int32) (x3 : Int32) (s0 : Int32) (s1 : Int32) (sr1 : Nat) (M : am_M), rc 2 r0 x1 x2 x3 s0 s1 sr1 M = some (res, M') → AW u_Model_look R_Model_look 0 0 83 [(0, .ref r0), (3, .int x3)] [.int s0, .int s1] M (fun r M2 => r = .inl (some (.int res)) ∧ M2 = M')) (ih_3 : ∀ (r0 : Nat) (x1 : Int32) (x2 : Int32) (x3 : Int32) (s0 : Int32) (s1 : Int32) (sr1 : Nat) (M : am_M), rc 3 r0 x1 x2 x3 s0 s1 sr1 M = some (res, M') → AW u_Model_look R_Model_look 0 0 95 [(0, .ref r0), (2, .int x2), (3, .int x3)] [] M (fun r M2 => r = .inl (some (.int res)) ∧ M2 = M')) (ih_4 : ∀ (r0 : Nat) (x1 : Int32) (x2 : Int32) (x3 : Int32) (s0 : Int32) (s1 : Int32) (sr1 : Nat) (M : am_M), rc 4 r0 x1 x2 x3 s0 s1 sr1 M = some (res, M') → AW u_Model_look R_Model_look 0 0 115 [(0, .ref r0), (3, .int x3)] [.int s0, .int s1] M (fun r M2 => r = .inl (some (.int res)) ∧ M2 = M')) (ih_5 : ∀ (r0 : Nat) (x1 : Int32) (x2 : Int32) (x3 : Int32) (s0 : Int32) (s1 : Int32) (sr1 : Nat) (M : am_M), rc 5 r0 x1 x2 x3 s0 s1 sr1 M = some (res, M') → AW u_Model_look R_Model_look 0 0 137 [(0, .ref r0), (2, .int x2), (3, .int x3)] [] M (fun r M2 => r = .inl (some (.int res)) ∧ M2 = M')) (ih_6 : ∀ (r0 : Nat) (x1 : Int32) (x2 : Int32) (x3 : Int32) (s0 : Int32) (s1 : Int32) (sr1 : Nat) (M : am_M), rc 6 r0 x1 x2 x3 s0 s1 sr1 M = some (res, M') → AW u_Model_look R_Model_look 0 0 158 [(0, .ref r0), (3, .int x3)] [.int s0, .int s1] M (fun r M2 => r = .inl (some (.int res)) ∧ M2 = M')) (ih_7 : ∀ (r0 : Nat) (x1 : Int32) (x2 : Int32) (x3 : Int32) (s0 : Int32) (s1 : Int32) (sr1 : Nat) (M : am_M), rc 7 r0 x1 x2 x3 s0 s1 sr1 M = some (res, M') → AW u_Model_look R_Model_look 0 0 181 [(0, .ref r0), (2, .int x2), (3, .int x3)] [] M (fun r M2 => r = .inl (some (.int res)) ∧ M2 = M')) (ih_8 : ∀ (r0 : Nat) (x1 : Int32) (x2 : Int32) (x3 : Int32) (s0 : Int32) (s1 : Int32) (sr1 : Nat) (M : am_M), rc 8 r0 x1 x2 x3 s0 s1 sr1 M = some (res, M') → AW u_Model_look R_Model_look 0 0 202 [(0, .ref r0), (3, .int x3)] [.int s0, .int s1] M (fun r M2 => r = .inl (some (.int res)) ∧ M2 = M')) : ∀ (r0 : Nat) (x1 : Int32) (x2 : Int32) (x3 : Int32) (s0 : Int32) (s1 : Int32) (sr1 : Nat) (M : am_M), a_Model_look_8 rc r0 x1 x2 x3 s0 s1 sr1 M = some (res, M') → AW u_Model_look R_Model_look 0 0 202 [(0, .ref r0), (3, .int x3)] [.int s0, .int s1] M (fun r M2 => r = .inl (some (.int res)) ∧ M2 = M') := by
  intro r0 x1 x2 x3 s0 s1 sr1 M h
  unfold a_Model_look_8 at h
  refine aw_iadd d_Model_look_202 ?_
  refine aw_istore_n (ls' := [(2, .int _), (0, .ref _), (3, .int _)]) d_Model_look_203 rfl (Nat.le_of_ble_eq_true rfl) rfl ?_
  refine aw_iinc (v := (x3 + (1 : Int32))) (ls' := [(3, .int _), (2, .int _), (0, .ref _)]) d_Model_look_204 rfl rfl (Nat.le_of_ble_eq_true rfl) rfl ?_
  refine aw_goto (tgt := 181) d_Model_look_207 (by decide) ?_
  exact aw_pick [2, 1, 0] rfl (ih_7 _ _ _ _ _ _ _ _ h)
theorem l_Model_look {res : Int32} {M' : am_M} : ∀ F : Nat, (∀ (r0 : Nat) (x1 : Int32) (x2 : Int32) (x3 : Int32) (s0 : Int32) (s1 : Int32) (sr1 : Nat) (M : am_M), g_Model_look F 0 r0 x1 x2 x3 s0 s1 sr1 M = some (res, M') → AW u_Model_look R_Model_look 0 0 15 [(0, .ref r0), (1, .int x1)] [.int s0, .ref sr1] M (fun r M2 => r = .inl (some (.int res)) ∧ M2 = M')) ∧ (∀ (r0 : Nat) (x1 : Int32) (x2 : Int32) (x3 : Int32) (s0 : Int32) (s1 : Int32) (sr1 : Nat) (M : am_M), g_Model_look F 1 r0 x1 x2 x3 s0 s1 sr1 M = some (res, M') → AW u_Model_look R_Model_look 0 0 62 [(0, .ref r0), (2, .int x2), (3, .int x3)] [] M (fun r M2 => r = .inl (some (.int res)) ∧ M2 = M')) ∧ (∀ (r0 : Nat) (x1 : Int32) (x2 : Int32) (x3 : Int32) (s0 : Int32) (s1 : Int32) (sr1 : Nat) (M : am_M), g_Model_look F 2 r0 x1 x2 x3 s0 s1 sr1 M = some (res, M') → AW u_Model_look R_Model_look 0 0 83 [(0, .ref r0), (3, .int x3)] [.int s0, .int s1] M (fun r M2 => r = .inl (some (.int res)) ∧ M2 = M')) ∧ (∀ (r0 : Nat) (x1 : Int32) (x2 : Int32) (x3 : Int32) (s0 : Int32) (s1 : Int32) (sr1 : Nat) (M : am_M), g_Model_look F 3 r0 x1 x2 x3 s0 s1 sr1 M = some (res, M') → AW u_Model_look R_Model_look 0 0 95 [(0, .ref r0), (2, .int x2), (3, .int x3)] [] M (fun r M2 => r = .inl (some (.int res)) ∧ M2 = M')) ∧ (∀ (r0 : Nat) (x1 : Int32) (x2 : Int32) (x3 : Int32) (s0 : Int32) (s1 : Int32) (sr1 : Nat) (M : am_M), g_Model_look F 4 r0 x1 x2 x3 s0 s1 sr1 M = some (res, M') → AW u_Model_look R_Model_look 0 0 115 [(0, .ref r0), (3, .int x3)] [.int s0, .int s1] M (fun r M2 => r = .inl (some (.int res)) ∧ M2 = M')) ∧ (∀ (r0 : Nat) (x1 : Int32) (x2 : Int32) (x3 : Int32) (s0 : Int32) (s1 : Int32) (sr1 : Nat) (M : am_M), g_Model_look F 5 r0 x1 x2 x3 s0 s1 sr1 M = some (res, M') → AW u_Model_look R_Model_look 0 0 137 [(0, .ref r0), (2, .int x2), (3, .int x3)] [] M (fun r M2 => r = .inl (some (.int res)) ∧ M2 = M')) ∧ (∀ (r0 : Nat) (x1 : Int32) (x2 : Int32) (x3 : Int32) (s0 : Int32) (s1 : Int32) (sr1 : Nat) (M : am_M), g_Model_look F 6 r0 x1 x2 x3 s0 s1 sr1 M = some (res, M') → AW u_Model_look R_Model_look 0 0 158 [(0, .ref r0), (3, .int x3)] [.int s0, .int s1] M (fun r M2 => r = .inl (some (.int res)) ∧ M2 = M')) ∧ (∀ (r0 : Nat) (x1 : Int32) (x2 : Int32) (x3 : Int32) (s0 : Int32) (s1 : Int32) (sr1 : Nat) (M : am_M), g_Model_look F 7 r0 x1 x2 x3 s0 s1 sr1 M = some (res, M') → AW u_Model_look R_Model_look 0 0 181 [(0, .ref r0), (2, .int x2), (3, .int x3)] [] M (fun r M2 => r = .inl (some (.int res)) ∧ M2 = M')) ∧ (∀ (r0 : Nat) (x1 : Int32) (x2 : Int32) (x3 : Int32) (s0 : Int32) (s1 : Int32) (sr1 : Nat) (M : am_M), g_Model_look F 8 r0 x1 x2 x3 s0 s1 sr1 M = some (res, M') → AW u_Model_look R_Model_look 0 0 202 [(0, .ref r0), (3, .int x3)] [.int s0, .int s1] M (fun r M2 => r = .inl (some (.int res)) ∧ M2 = M')) := by
  intro F
  induction F with
  | zero => exact ⟨fun _ _ _ _ _ _ _ _  h => (by cases h), fun _ _ _ _ _ _ _ _  h => (by cases h), fun _ _ _ _ _ _ _ _  h => (by cases h), fun _ _ _ _ _ _ _ _  h => (by cases h), fun _ _ _ _ _ _ _ _  h => (by cases h), fun _ _ _ _ _ _ _ _  h => (by cases h), fun _ _ _ _ _ _ _ _  h => (by cases h), fun _ _ _ _ _ _ _ _  h => (by cases h), fun _ _ _ _ _ _ _ _  h => (by cases h)⟩
  | succ F ih =>
    obtain ⟨ih0, ih1, ih2, ih3, ih4, ih5, ih6, ih7, ih8⟩ := ih
    exact ⟨s_Model_look_0 ih0 ih1 ih2 ih3 ih4 ih5 ih6 ih7 ih8, s_Model_look_1 ih0 ih1 ih2 ih3 ih4 ih5 ih6 ih7 ih8, s_Model_look_2 ih0 ih1 ih2 ih3 ih4 ih5 ih6 ih7 ih8, s_Model_look_3 ih0 ih1 ih2 ih3 ih4 ih5 ih6 ih7 ih8, s_Model_look_4 ih0 ih1 ih2 ih3 ih4 ih5 ih6 ih7 ih8, s_Model_look_5 ih0 ih1 ih2 ih3 ih4 ih5 ih6 ih7 ih8, s_Model_look_6 ih0 ih1 ih2 ih3 ih4 ih5 ih6 ih7 ih8, s_Model_look_7 ih0 ih1 ih2 ih3 ih4 ih5 ih6 ih7 ih8, s_Model_look_8 ih0 ih1 ih2 ih3 ih4 ih5 ih6 ih7 ih8⟩
set_option maxHeartbeats 4000000 in
theorem mt_Model_look {M : am_M} {a0 : Nat} {a1 : Int32} {res : Int32} {M' : am_M} (h : f_Model_look M a0 a1 = some (res, M')) : AMet y_Model_look u_Model_look R_Model_look [.ref a0, .int a1] M (fun r M2 => r = .inl (some (.int res)) ∧ M2 = M') := by
  refine am_met (by decide +kernel) w_Model_look rfl rfl (Nat.le_of_ble_eq_true rfl) ?_
  show AW u_Model_look R_Model_look 0 0 0 [(0, .ref a0), (1, .int a1)] [] M (fun r M2 => r = .inl (some (.int res)) ∧ M2 = M')
  have ih_0 := (l_Model_look (res := res) (M' := M') 1000000000).1
  have ih_1 := (l_Model_look (res := res) (M' := M') 1000000000).2.1
  have ih_2 := (l_Model_look (res := res) (M' := M') 1000000000).2.2.1
  have ih_3 := (l_Model_look (res := res) (M' := M') 1000000000).2.2.2.1
  have ih_4 := (l_Model_look (res := res) (M' := M') 1000000000).2.2.2.2.1
  have ih_5 := (l_Model_look (res := res) (M' := M') 1000000000).2.2.2.2.2.1
  have ih_6 := (l_Model_look (res := res) (M' := M') 1000000000).2.2.2.2.2.2.1
  have ih_7 := (l_Model_look (res := res) (M' := M') 1000000000).2.2.2.2.2.2.2.1
  have ih_8 := (l_Model_look (res := res) (M' := M') 1000000000).2.2.2.2.2.2.2.2
  unfold f_Model_look at h
  unfold e_Model_look at h
  generalize g_Model_look 1000000000 = rc at h ih_0 ih_1 ih_2 ih_3 ih_4 ih_5 ih_6 ih_7 ih_8
  refine aw_aload_n d_Model_look_0 rfl rfl ?_
  refine aw_iload_n d_Model_look_1 rfl rfl ?_
  refine aw_iconst (v := 0) d_Model_look_2 (by decide) ?_
  refine aw_iconst (v := 5) d_Model_look_3 (by decide) ?_
  obtain ⟨t4, e_t4, h⟩ := q_bind h
  refine aw_cS (v := (some (.int t4))) (As := [.int a1, .int (0 : Int32), .int (5 : Int32)]) (rest := [.ref a0]) (st' := [.int t4, .ref a0]) d_Model_look_4 kS_Model_180 ⟨Nat.le_of_ble_eq_true rfl, Nat.le_of_ble_eq_true rfl, Nat.le_of_ble_eq_true rfl, Nat.le_of_ble_eq_true rfl⟩ rfl rfl (Nat.le_of_ble_eq_true rfl) rfl (mt_Model_within e_t4) ?_
  refine aw_if_ne (tgt := 14) d_Model_look_7 (by decide) (fun hc => ?_) (fun hc => ?_)
  · rw [if_neg hc] at h
    refine aw_iconst (v := 0) d_Model_look_14 (by decide) ?_
    exact aw_pick [0, 1] rfl (ih_0 _ _ _ _ _ _ _ _ h)
  · rw [if_pos hc] at h
    refine aw_iconst (v := 1) d_Model_look_10 (by decide) ?_
    refine aw_goto (tgt := 15) d_Model_look_11 (by decide) ?_
    exact aw_pick [0, 1] rfl (ih_0 _ _ _ _ _ _ _ _ h)
def y_Choice_forget : MethodName := ⟨"CrewOffice$Choice", "forget", "()V"⟩
def u_Choice_forget : am_U := ("CrewOffice$Choice", "forget", prog_2_method_2_code, 1, none, [])
def R_Choice_forget : Room := { frames := 0, cells := 0, slots := 0, locals := 0 }
theorem d_Choice_forget_0 : decode u_Choice_forget.2.2.1 0 = .ok (.aload_n 0, 1) := by decide +kernel
theorem d_Choice_forget_1 : decode u_Choice_forget.2.2.1 1 = .ok (.iconst (-1), 1) := by decide +kernel
theorem d_Choice_forget_2 : decode u_Choice_forget.2.2.1 2 = .ok (.putfield 15, 3) := by decide +kernel
theorem d_Choice_forget_5 : decode u_Choice_forget.2.2.1 5 = .ok (.return_, 1) := by decide +kernel
theorem w_Choice_forget : am_code y_Choice_forget u_Choice_forget ∈ am_ws := am_mem (List.mem_of_getElem? (i := 464) (by decide +kernel)) rfl
def e_Choice_forget (M : am_M) (a0 : Nat) : Option (Unit × am_M) := (q_pti M a0 7 3 (-1 : Int32)).bind (fun M2 => some ((), M2))
def f_Choice_forget (M : am_M) (a0 : Nat) : Option (Unit × am_M) := e_Choice_forget M a0
theorem fl_Choice_15 : am_fl "CrewOffice$Choice" 15 7 3 := ⟨by decide, by decide, List.mem_of_getElem? (i := 375) (by decide +kernel)⟩
set_option maxHeartbeats 4000000 in
theorem mt_Choice_forget {M : am_M} {a0 : Nat} {res : Unit} {M' : am_M} (h : f_Choice_forget M a0 = some (res, M')) : AMet y_Choice_forget u_Choice_forget R_Choice_forget [.ref a0] M (fun r M2 => r = .inl none ∧ M2 = M') := by
  refine am_met (by decide +kernel) w_Choice_forget rfl rfl (Nat.le_of_ble_eq_true rfl) ?_
  show AW u_Choice_forget R_Choice_forget 0 0 0 [(0, .ref a0)] [] M (fun r M2 => r = .inl none ∧ M2 = M')
  unfold f_Choice_forget at h
  unfold e_Choice_forget at h
  refine aw_aload_n d_Choice_forget_0 rfl rfl ?_
  refine aw_iconst (v := -1) d_Choice_forget_1 (by decide) ?_
  obtain ⟨M2, e_M2, h⟩ := q_bind h
  refine aw_pti d_Choice_forget_2 fl_Choice_15 rfl rfl e_M2 ?_
  cases h
  exact aw_vreturn d_Choice_forget_5 rfl (Nat.le_of_ble_eq_true rfl) (Nat.le_of_ble_eq_true rfl) ⟨rfl, rfl⟩
def y_Choice_priceOf : MethodName := ⟨"CrewOffice$Choice", "priceOf", "(LCrewOffice$Work;)I"⟩
def u_Choice_priceOf : am_U := ("CrewOffice$Choice", "priceOf", prog_2_method_4_code, 2, (some .int), [])
def R_Choice_priceOf : Room := { frames := 0, cells := 0, slots := 0, locals := 0 }
theorem d_Choice_priceOf_0 : decode u_Choice_priceOf.2.2.1 0 = .ok (.aload_n 1, 1) := by decide +kernel
theorem d_Choice_priceOf_1 : decode u_Choice_priceOf.2.2.1 1 = .ok (.getfield 63, 3) := by decide +kernel
theorem d_Choice_priceOf_4 : decode u_Choice_priceOf.2.2.1 4 = .ok (.aload_n 1, 1) := by decide +kernel
theorem d_Choice_priceOf_5 : decode u_Choice_priceOf.2.2.1 5 = .ok (.getfield 68, 3) := by decide +kernel
theorem d_Choice_priceOf_8 : decode u_Choice_priceOf.2.2.1 8 = .ok (.isub, 1) := by decide +kernel
theorem d_Choice_priceOf_9 : decode u_Choice_priceOf.2.2.1 9 = .ok (.aload_n 0, 1) := by decide +kernel
theorem d_Choice_priceOf_10 : decode u_Choice_priceOf.2.2.1 10 = .ok (.getfield 26, 3) := by decide +kernel
theorem d_Choice_priceOf_13 : decode u_Choice_priceOf.2.2.1 13 = .ok (.getfield 55, 3) := by decide +kernel
theorem d_Choice_priceOf_16 : decode u_Choice_priceOf.2.2.1 16 = .ok (.bipush 8, 2) := by decide +kernel
theorem d_Choice_priceOf_18 : decode u_Choice_priceOf.2.2.1 18 = .ok (.iaload, 1) := by decide +kernel
theorem d_Choice_priceOf_19 : decode u_Choice_priceOf.2.2.1 19 = .ok (.aload_n 1, 1) := by decide +kernel
theorem d_Choice_priceOf_20 : decode u_Choice_priceOf.2.2.1 20 = .ok (.getfield 71, 3) := by decide +kernel
theorem d_Choice_priceOf_23 : decode u_Choice_priceOf.2.2.1 23 = .ok (.imul, 1) := by decide +kernel
theorem d_Choice_priceOf_24 : decode u_Choice_priceOf.2.2.1 24 = .ok (.iadd, 1) := by decide +kernel
theorem d_Choice_priceOf_25 : decode u_Choice_priceOf.2.2.1 25 = .ok (.ireturn, 1) := by decide +kernel
theorem w_Choice_priceOf : am_code y_Choice_priceOf u_Choice_priceOf ∈ am_ws := am_mem (List.mem_of_getElem? (i := 613) (by decide +kernel)) rfl
def e_Choice_priceOf (M : am_M) (a0 : Nat) (a1 : Nat) : Option (Int32) := (q_gti M a1 4 4).bind (fun t1 => (q_gti M a1 4 3).bind (fun t5 => (q_gtr M a0 7 0).bind (fun t10 => (q_gtr M t10 3 3).bind (fun t13 => (q_ldi M t13 (8 : Int32)).bind (fun t18 => (q_gti M a1 4 1).bind (fun t20 => some ((t1 - t5) + (t18 * t20))))))))
def f_Choice_priceOf (M : am_M) (a0 : Nat) (a1 : Nat) : Option (Int32) := e_Choice_priceOf M a0 a1
theorem fl_Choice_26 : am_fl "CrewOffice$Choice" 26 7 0 := ⟨by decide, by decide, List.mem_of_getElem? (i := 371) (by decide +kernel)⟩
theorem fl_Choice_55 : am_fl "CrewOffice$Choice" 55 3 3 := ⟨by decide, by decide, List.mem_of_getElem? (i := 230) (by decide +kernel)⟩
theorem fl_Choice_63 : am_fl "CrewOffice$Choice" 63 4 4 := ⟨by decide, by decide, List.mem_of_getElem? (i := 278) (by decide +kernel)⟩
theorem fl_Choice_68 : am_fl "CrewOffice$Choice" 68 4 3 := ⟨by decide, by decide, List.mem_of_getElem? (i := 272) (by decide +kernel)⟩
theorem fl_Choice_71 : am_fl "CrewOffice$Choice" 71 4 1 := ⟨by decide, by decide, List.mem_of_getElem? (i := 266) (by decide +kernel)⟩
set_option maxHeartbeats 4000000 in
theorem mt_Choice_priceOf {M : am_M} {a0 : Nat} {a1 : Nat} {res : Int32} (h : f_Choice_priceOf M a0 a1 = some res) : AMet y_Choice_priceOf u_Choice_priceOf R_Choice_priceOf [.ref a0, .ref a1] M (fun r M2 => r = .inl (some (.int res)) ∧ M2 = M) := by
  refine am_met (by decide +kernel) w_Choice_priceOf rfl rfl (Nat.le_of_ble_eq_true rfl) ?_
  show AW u_Choice_priceOf R_Choice_priceOf 0 0 0 [(0, .ref a0), (1, .ref a1)] [] M (fun r M2 => r = .inl (some (.int res)) ∧ M2 = M)
  unfold f_Choice_priceOf at h
  unfold e_Choice_priceOf at h
  refine aw_aload_n d_Choice_priceOf_0 rfl rfl ?_
  obtain ⟨t1, e_t1, h⟩ := q_bind h
  refine aw_gti d_Choice_priceOf_1 fl_Choice_63 (Or.inl rfl) e_t1 ?_
  refine aw_aload_n d_Choice_priceOf_4 rfl rfl ?_
  obtain ⟨t5, e_t5, h⟩ := q_bind h
  refine aw_gti d_Choice_priceOf_5 fl_Choice_68 (Or.inl rfl) e_t5 ?_
  refine aw_isub d_Choice_priceOf_8 ?_
  refine aw_aload_n d_Choice_priceOf_9 rfl rfl ?_
  obtain ⟨t10, e_t10, h⟩ := q_bind h
  refine aw_gtr d_Choice_priceOf_10 fl_Choice_26 (Or.inl ⟨_, rfl⟩) e_t10 ?_
  obtain ⟨t13, e_t13, h⟩ := q_bind h
  refine aw_gtr d_Choice_priceOf_13 fl_Choice_55 (Or.inr ⟨_, rfl⟩) e_t13 ?_
  refine aw_bipush (v := 8) d_Choice_priceOf_16 (by decide) ?_
  obtain ⟨t18, e_t18, h⟩ := q_bind h
  refine aw_ldi d_Choice_priceOf_18 e_t18 ?_
  refine aw_aload_n d_Choice_priceOf_19 rfl rfl ?_
  obtain ⟨t20, e_t20, h⟩ := q_bind h
  refine aw_gti d_Choice_priceOf_20 fl_Choice_71 (Or.inl rfl) e_t20 ?_
  refine aw_imul d_Choice_priceOf_23 ?_
  refine aw_iadd d_Choice_priceOf_24 ?_
  cases h
  exact aw_ireturn d_Choice_priceOf_25 rfl (Nat.le_of_ble_eq_true rfl) (Nat.le_of_ble_eq_true rfl) ⟨rfl, rfl⟩
def y_Choice_bitOf : MethodName := ⟨"CrewOffice$Choice", "bitOf", "(I)J"⟩
def u_Choice_bitOf : am_U := ("CrewOffice$Choice", "bitOf", prog_2_method_5_code, 1, (some .long), [])
def R_Choice_bitOf : Room := { frames := 0, cells := 0, slots := 0, locals := 0 }
theorem d_Choice_bitOf_0 : decode u_Choice_bitOf.2.2.1 0 = .ok (.lconst 1, 1) := by decide +kernel
theorem d_Choice_bitOf_1 : decode u_Choice_bitOf.2.2.1 1 = .ok (.bipush 39, 2) := by decide +kernel
theorem d_Choice_bitOf_3 : decode u_Choice_bitOf.2.2.1 3 = .ok (.iload_n 0, 1) := by decide +kernel
theorem d_Choice_bitOf_4 : decode u_Choice_bitOf.2.2.1 4 = .ok (.isub, 1) := by decide +kernel
theorem d_Choice_bitOf_5 : decode u_Choice_bitOf.2.2.1 5 = .ok (.lshl, 1) := by decide +kernel
theorem d_Choice_bitOf_6 : decode u_Choice_bitOf.2.2.1 6 = .ok (.lreturn, 1) := by decide +kernel
theorem w_Choice_bitOf : am_code y_Choice_bitOf u_Choice_bitOf ∈ am_ws := am_mem (List.mem_of_getElem? (i := 616) (by decide +kernel)) rfl
def e_Choice_bitOf (M : am_M) (a0 : Int32) : Option (Int64) := some ((1 : Int64) <<< ((((39 : Int32) - a0)).toInt64 &&& 63))
def f_Choice_bitOf (M : am_M) (a0 : Int32) : Option (Int64) := e_Choice_bitOf M a0
set_option maxHeartbeats 4000000 in
theorem mt_Choice_bitOf {M : am_M} {a0 : Int32} {res : Int64} (h : f_Choice_bitOf M a0 = some res) : AMet y_Choice_bitOf u_Choice_bitOf R_Choice_bitOf [.int a0] M (fun r M2 => r = .inl (some (.long res)) ∧ M2 = M) := by
  refine am_met (by decide +kernel) w_Choice_bitOf rfl rfl (Nat.le_of_ble_eq_true rfl) ?_
  show AW u_Choice_bitOf R_Choice_bitOf 0 0 0 [(0, .int a0)] [] M (fun r M2 => r = .inl (some (.long res)) ∧ M2 = M)
  unfold f_Choice_bitOf at h
  unfold e_Choice_bitOf at h
  refine aw_lconst (v := 1) d_Choice_bitOf_0 (by decide) ?_
  refine aw_bipush (v := 39) d_Choice_bitOf_1 (by decide) ?_
  refine aw_iload_n d_Choice_bitOf_3 rfl rfl ?_
  refine aw_isub d_Choice_bitOf_4 ?_
  refine aw_lshl d_Choice_bitOf_5 ?_
  cases h
  exact aw_lreturn d_Choice_bitOf_6 rfl (Nat.le_of_ble_eq_true rfl) (Nat.le_of_ble_eq_true rfl) ⟨rfl, rfl⟩
def y_Choice_cheapest : MethodName := ⟨"CrewOffice$Choice", "cheapest", "(I)I"⟩
def u_Choice_cheapest : am_U := ("CrewOffice$Choice", "cheapest", prog_2_method_6_code, 12, (some .int), [])
def R_Choice_cheapest (d : Nat) : Room := { frames := 1 + d, cells := 0, slots := 0, locals := 21 + 40 * d }
theorem d_Choice_cheapest_0 : decode u_Choice_cheapest.2.2.1 0 = .ok (.iload_n 1, 1) := by decide +kernel
theorem d_Choice_cheapest_1 : decode u_Choice_cheapest.2.2.1 1 = .ok (.ifCond .ne 12, 3) := by decide +kernel
theorem d_Choice_cheapest_4 : decode u_Choice_cheapest.2.2.1 4 = .ok (.aload_n 0, 1) := by decide +kernel
theorem d_Choice_cheapest_5 : decode u_Choice_cheapest.2.2.1 5 = .ok (.getfield 22, 3) := by decide +kernel
theorem d_Choice_cheapest_8 : decode u_Choice_cheapest.2.2.1 8 = .ok (.iconst 0, 1) := by decide +kernel
theorem d_Choice_cheapest_9 : decode u_Choice_cheapest.2.2.1 9 = .ok (.lconst 0, 1) := by decide +kernel
theorem d_Choice_cheapest_10 : decode u_Choice_cheapest.2.2.1 10 = .ok (.lastore, 1) := by decide +kernel
theorem d_Choice_cheapest_11 : decode u_Choice_cheapest.2.2.1 11 = .ok (.iconst 0, 1) := by decide +kernel
theorem d_Choice_cheapest_12 : decode u_Choice_cheapest.2.2.1 12 = .ok (.ireturn, 1) := by decide +kernel
theorem d_Choice_cheapest_13 : decode u_Choice_cheapest.2.2.1 13 = .ok (.aload_n 0, 1) := by decide +kernel
theorem d_Choice_cheapest_14 : decode u_Choice_cheapest.2.2.1 14 = .ok (.getfield 19, 3) := by decide +kernel
theorem d_Choice_cheapest_17 : decode u_Choice_cheapest.2.2.1 17 = .ok (.iload_n 1, 1) := by decide +kernel
theorem d_Choice_cheapest_18 : decode u_Choice_cheapest.2.2.1 18 = .ok (.iaload, 1) := by decide +kernel
theorem d_Choice_cheapest_19 : decode u_Choice_cheapest.2.2.1 19 = .ok (.iconst (-1), 1) := by decide +kernel
theorem d_Choice_cheapest_20 : decode u_Choice_cheapest.2.2.1 20 = .ok (.if_icmp .eq 10, 3) := by decide +kernel
theorem d_Choice_cheapest_23 : decode u_Choice_cheapest.2.2.1 23 = .ok (.aload_n 0, 1) := by decide +kernel
theorem d_Choice_cheapest_24 : decode u_Choice_cheapest.2.2.1 24 = .ok (.getfield 19, 3) := by decide +kernel
theorem d_Choice_cheapest_27 : decode u_Choice_cheapest.2.2.1 27 = .ok (.iload_n 1, 1) := by decide +kernel
theorem d_Choice_cheapest_28 : decode u_Choice_cheapest.2.2.1 28 = .ok (.iaload, 1) := by decide +kernel
theorem d_Choice_cheapest_29 : decode u_Choice_cheapest.2.2.1 29 = .ok (.ireturn, 1) := by decide +kernel
theorem d_Choice_cheapest_30 : decode u_Choice_cheapest.2.2.1 30 = .ok (.iload_n 1, 1) := by decide +kernel
theorem d_Choice_cheapest_31 : decode u_Choice_cheapest.2.2.1 31 = .ok (.iload_n 1, 1) := by decide +kernel
theorem d_Choice_cheapest_32 : decode u_Choice_cheapest.2.2.1 32 = .ok (.ineg, 1) := by decide +kernel
theorem d_Choice_cheapest_33 : decode u_Choice_cheapest.2.2.1 33 = .ok (.iand, 1) := by decide +kernel
theorem d_Choice_cheapest_34 : decode u_Choice_cheapest.2.2.1 34 = .ok (.istore_n 2, 1) := by decide +kernel
theorem d_Choice_cheapest_35 : decode u_Choice_cheapest.2.2.1 35 = .ok (.ldc 50, 2) := by decide +kernel
theorem d_Choice_cheapest_37 : decode u_Choice_cheapest.2.2.1 37 = .ok (.istore_n 3, 1) := by decide +kernel
theorem d_Choice_cheapest_38 : decode u_Choice_cheapest.2.2.1 38 = .ok (.lconst 0, 1) := by decide +kernel
theorem d_Choice_cheapest_39 : decode u_Choice_cheapest.2.2.1 39 = .ok (.lstore 4, 2) := by decide +kernel
theorem d_Choice_cheapest_41 : decode u_Choice_cheapest.2.2.1 41 = .ok (.iconst 0, 1) := by decide +kernel
theorem d_Choice_cheapest_42 : decode u_Choice_cheapest.2.2.1 42 = .ok (.istore 6, 2) := by decide +kernel
theorem d_Choice_cheapest_44 : decode u_Choice_cheapest.2.2.1 44 = .ok (.iload 6, 2) := by decide +kernel
theorem d_Choice_cheapest_46 : decode u_Choice_cheapest.2.2.1 46 = .ok (.aload_n 0, 1) := by decide +kernel
theorem d_Choice_cheapest_47 : decode u_Choice_cheapest.2.2.1 47 = .ok (.getfield 30, 3) := by decide +kernel
theorem d_Choice_cheapest_50 : decode u_Choice_cheapest.2.2.1 50 = .ok (.getfield 74, 3) := by decide +kernel
theorem d_Choice_cheapest_53 : decode u_Choice_cheapest.2.2.1 53 = .ok (.if_icmp .ge 99, 3) := by decide +kernel
theorem d_Choice_cheapest_56 : decode u_Choice_cheapest.2.2.1 56 = .ok (.aload_n 0, 1) := by decide +kernel
theorem d_Choice_cheapest_57 : decode u_Choice_cheapest.2.2.1 57 = .ok (.getfield 30, 3) := by decide +kernel
theorem d_Choice_cheapest_60 : decode u_Choice_cheapest.2.2.1 60 = .ok (.getfield 77, 3) := by decide +kernel
theorem d_Choice_cheapest_63 : decode u_Choice_cheapest.2.2.1 63 = .ok (.iload 6, 2) := by decide +kernel
theorem d_Choice_cheapest_65 : decode u_Choice_cheapest.2.2.1 65 = .ok (.aaload, 1) := by decide +kernel
theorem d_Choice_cheapest_66 : decode u_Choice_cheapest.2.2.1 66 = .ok (.astore 7, 2) := by decide +kernel
theorem d_Choice_cheapest_68 : decode u_Choice_cheapest.2.2.1 68 = .ok (.iload_n 1, 1) := by decide +kernel
theorem d_Choice_cheapest_69 : decode u_Choice_cheapest.2.2.1 69 = .ok (.aload 7, 2) := by decide +kernel
theorem d_Choice_cheapest_71 : decode u_Choice_cheapest.2.2.1 71 = .ok (.getfield 81, 3) := by decide +kernel
theorem d_Choice_cheapest_74 : decode u_Choice_cheapest.2.2.1 74 = .ok (.iconst (-1), 1) := by decide +kernel
theorem d_Choice_cheapest_75 : decode u_Choice_cheapest.2.2.1 75 = .ok (.ixor, 1) := by decide +kernel
theorem d_Choice_cheapest_76 : decode u_Choice_cheapest.2.2.1 76 = .ok (.iand, 1) := by decide +kernel
theorem d_Choice_cheapest_77 : decode u_Choice_cheapest.2.2.1 77 = .ok (.istore 8, 2) := by decide +kernel
theorem d_Choice_cheapest_79 : decode u_Choice_cheapest.2.2.1 79 = .ok (.aload 7, 2) := by decide +kernel
theorem d_Choice_cheapest_81 : decode u_Choice_cheapest.2.2.1 81 = .ok (.getfield 81, 3) := by decide +kernel
theorem d_Choice_cheapest_84 : decode u_Choice_cheapest.2.2.1 84 = .ok (.iload_n 2, 1) := by decide +kernel
theorem d_Choice_cheapest_85 : decode u_Choice_cheapest.2.2.1 85 = .ok (.iand, 1) := by decide +kernel
theorem d_Choice_cheapest_86 : decode u_Choice_cheapest.2.2.1 86 = .ok (.ifCond .eq 60, 3) := by decide +kernel
theorem d_Choice_cheapest_89 : decode u_Choice_cheapest.2.2.1 89 = .ok (.aload_n 0, 1) := by decide +kernel
theorem d_Choice_cheapest_90 : decode u_Choice_cheapest.2.2.1 90 = .ok (.aload 7, 2) := by decide +kernel
theorem d_Choice_cheapest_92 : decode u_Choice_cheapest.2.2.1 92 = .ok (.invokevirtual 84, 3) := by decide +kernel
theorem d_Choice_cheapest_95 : decode u_Choice_cheapest.2.2.1 95 = .ok (.aload_n 0, 1) := by decide +kernel
theorem d_Choice_cheapest_96 : decode u_Choice_cheapest.2.2.1 96 = .ok (.iload 8, 2) := by decide +kernel
theorem d_Choice_cheapest_98 : decode u_Choice_cheapest.2.2.1 98 = .ok (.invokevirtual 46, 3) := by decide +kernel
theorem d_Choice_cheapest_101 : decode u_Choice_cheapest.2.2.1 101 = .ok (.iadd, 1) := by decide +kernel
theorem d_Choice_cheapest_102 : decode u_Choice_cheapest.2.2.1 102 = .ok (.istore 9, 2) := by decide +kernel
theorem d_Choice_cheapest_104 : decode u_Choice_cheapest.2.2.1 104 = .ok (.iload 6, 2) := by decide +kernel
theorem d_Choice_cheapest_106 : decode u_Choice_cheapest.2.2.1 106 = .ok (.invokestatic 88, 3) := by decide +kernel
theorem d_Choice_cheapest_109 : decode u_Choice_cheapest.2.2.1 109 = .ok (.aload_n 0, 1) := by decide +kernel
theorem d_Choice_cheapest_110 : decode u_Choice_cheapest.2.2.1 110 = .ok (.getfield 22, 3) := by decide +kernel
theorem d_Choice_cheapest_113 : decode u_Choice_cheapest.2.2.1 113 = .ok (.iload 8, 2) := by decide +kernel
theorem d_Choice_cheapest_115 : decode u_Choice_cheapest.2.2.1 115 = .ok (.laload, 1) := by decide +kernel
theorem d_Choice_cheapest_116 : decode u_Choice_cheapest.2.2.1 116 = .ok (.lor, 1) := by decide +kernel
theorem d_Choice_cheapest_117 : decode u_Choice_cheapest.2.2.1 117 = .ok (.lstore 10, 2) := by decide +kernel
theorem d_Choice_cheapest_119 : decode u_Choice_cheapest.2.2.1 119 = .ok (.iload 9, 2) := by decide +kernel
theorem d_Choice_cheapest_121 : decode u_Choice_cheapest.2.2.1 121 = .ok (.iload_n 3, 1) := by decide +kernel
theorem d_Choice_cheapest_122 : decode u_Choice_cheapest.2.2.1 122 = .ok (.if_icmp .lt 17, 3) := by decide +kernel
theorem d_Choice_cheapest_125 : decode u_Choice_cheapest.2.2.1 125 = .ok (.iload 9, 2) := by decide +kernel
theorem d_Choice_cheapest_127 : decode u_Choice_cheapest.2.2.1 127 = .ok (.iload_n 3, 1) := by decide +kernel
theorem d_Choice_cheapest_128 : decode u_Choice_cheapest.2.2.1 128 = .ok (.if_icmp .ne 18, 3) := by decide +kernel
theorem d_Choice_cheapest_131 : decode u_Choice_cheapest.2.2.1 131 = .ok (.lload 10, 2) := by decide +kernel
theorem d_Choice_cheapest_133 : decode u_Choice_cheapest.2.2.1 133 = .ok (.lload 4, 2) := by decide +kernel
theorem d_Choice_cheapest_135 : decode u_Choice_cheapest.2.2.1 135 = .ok (.lcmp, 1) := by decide +kernel
theorem d_Choice_cheapest_136 : decode u_Choice_cheapest.2.2.1 136 = .ok (.ifCond .le 10, 3) := by decide +kernel
theorem d_Choice_cheapest_139 : decode u_Choice_cheapest.2.2.1 139 = .ok (.iload 9, 2) := by decide +kernel
theorem d_Choice_cheapest_141 : decode u_Choice_cheapest.2.2.1 141 = .ok (.istore_n 3, 1) := by decide +kernel
theorem d_Choice_cheapest_142 : decode u_Choice_cheapest.2.2.1 142 = .ok (.lload 10, 2) := by decide +kernel
theorem d_Choice_cheapest_144 : decode u_Choice_cheapest.2.2.1 144 = .ok (.lstore 4, 2) := by decide +kernel
theorem d_Choice_cheapest_146 : decode u_Choice_cheapest.2.2.1 146 = .ok (.iinc 6 1, 3) := by decide +kernel
theorem d_Choice_cheapest_149 : decode u_Choice_cheapest.2.2.1 149 = .ok (.goto (-105), 3) := by decide +kernel
theorem d_Choice_cheapest_152 : decode u_Choice_cheapest.2.2.1 152 = .ok (.aload_n 0, 1) := by decide +kernel
theorem d_Choice_cheapest_153 : decode u_Choice_cheapest.2.2.1 153 = .ok (.getfield 19, 3) := by decide +kernel
theorem d_Choice_cheapest_156 : decode u_Choice_cheapest.2.2.1 156 = .ok (.iload_n 1, 1) := by decide +kernel
theorem d_Choice_cheapest_157 : decode u_Choice_cheapest.2.2.1 157 = .ok (.iload_n 3, 1) := by decide +kernel
theorem d_Choice_cheapest_158 : decode u_Choice_cheapest.2.2.1 158 = .ok (.iastore, 1) := by decide +kernel
theorem d_Choice_cheapest_159 : decode u_Choice_cheapest.2.2.1 159 = .ok (.aload_n 0, 1) := by decide +kernel
theorem d_Choice_cheapest_160 : decode u_Choice_cheapest.2.2.1 160 = .ok (.getfield 22, 3) := by decide +kernel
theorem d_Choice_cheapest_163 : decode u_Choice_cheapest.2.2.1 163 = .ok (.iload_n 1, 1) := by decide +kernel
theorem d_Choice_cheapest_164 : decode u_Choice_cheapest.2.2.1 164 = .ok (.lload 4, 2) := by decide +kernel
theorem d_Choice_cheapest_166 : decode u_Choice_cheapest.2.2.1 166 = .ok (.lastore, 1) := by decide +kernel
theorem d_Choice_cheapest_167 : decode u_Choice_cheapest.2.2.1 167 = .ok (.iload_n 3, 1) := by decide +kernel
theorem d_Choice_cheapest_168 : decode u_Choice_cheapest.2.2.1 168 = .ok (.ireturn, 1) := by decide +kernel
theorem w_Choice_cheapest : am_code y_Choice_cheapest u_Choice_cheapest ∈ am_ws := am_mem (List.mem_of_getElem? (i := 608) (by decide +kernel)) rfl
def a_Choice_cheapest_0 (rec : am_M → Nat → Int32 → Option (Int32 × am_M)) (rc : Nat → Nat → Int32 → Int32 → Int32 → Int64 → Int32 → Int32 → Int64 → am_M → Option (Int32 × am_M)) (r0 : Nat) (x1 : Int32) (x2 : Int32) (x3 : Int32) (l4 : Int64) (x6 : Int32) (x9 : Int32) (l10 : Int64) (M : am_M) : Option (Int32 × am_M) := (q_gtr M r0 7 1).bind (fun t47 => (q_gti M t47 6 3).bind (fun t50 => if t50 ≤ x6 then ((q_gtr M r0 7 4).bind (fun t153 => (q_sti M t153 x1 x3).bind (fun M158 => (q_gtr M158 r0 7 5).bind (fun t160 => (q_stl M158 t160 x1 l4).bind (fun M166 => some (x3, M166)))))) else ((q_gtr M r0 7 1).bind (fun t57 => (q_gtr M t57 6 2).bind (fun t60 => (q_ldr M t60 x6).bind (fun t65 => (q_gti M t65 4 7).bind (fun t71 => (q_gti M t65 4 7).bind (fun t81 => if (t81 &&& x2) = 0 then (rc 2 r0 x1 x2 x3 l4 x6 0 0 M) else ((q_ob M r0 7).bind (fun o92 => (f_Choice_priceOf M r0 t65).bind (fun t92 => (q_ob M r0 7).bind (fun o98 => (rec M r0 (x1 &&& (t71 ^^^ (-1 : Int32)))).bind (fun p98 => (f_Choice_bitOf p98.2 x6).bind (fun t106 => (q_gtr p98.2 r0 7 5).bind (fun t110 => (q_ldl p98.2 t110 (x1 &&& (t71 ^^^ (-1 : Int32)))).bind (fun t115 => if (t92 + p98.1) < x3 then (rc 1 r0 x1 x2 0 0 x6 (t92 + p98.1) (t106 ||| t115) p98.2) else (if (t92 + p98.1) = x3 then (if (lg_cmp (t106 ||| t115) l4) ≤ 0 then (rc 2 r0 x1 x2 x3 l4 x6 0 0 p98.2) else (rc 1 r0 x1 x2 0 0 x6 (t92 + p98.1) (t106 ||| t115) p98.2)) else (rc 2 r0 x1 x2 x3 l4 x6 0 0 p98.2))))))))))))))))))
def a_Choice_cheapest_1 (rec : am_M → Nat → Int32 → Option (Int32 × am_M)) (rc : Nat → Nat → Int32 → Int32 → Int32 → Int64 → Int32 → Int32 → Int64 → am_M → Option (Int32 × am_M)) (r0 : Nat) (x1 : Int32) (x2 : Int32) (x3 : Int32) (l4 : Int64) (x6 : Int32) (x9 : Int32) (l10 : Int64) (M : am_M) : Option (Int32 × am_M) := rc 2 r0 x1 x2 x9 l10 x6 0 0 M
def a_Choice_cheapest_2 (rec : am_M → Nat → Int32 → Option (Int32 × am_M)) (rc : Nat → Nat → Int32 → Int32 → Int32 → Int64 → Int32 → Int32 → Int64 → am_M → Option (Int32 × am_M)) (r0 : Nat) (x1 : Int32) (x2 : Int32) (x3 : Int32) (l4 : Int64) (x6 : Int32) (x9 : Int32) (l10 : Int64) (M : am_M) : Option (Int32 × am_M) := rc 0 r0 x1 x2 x3 l4 (x6 + (1 : Int32)) 0 0 M
def g_Choice_cheapest (rec : am_M → Nat → Int32 → Option (Int32 × am_M)) : Nat → Nat → Nat → Int32 → Int32 → Int32 → Int64 → Int32 → Int32 → Int64 → am_M → Option (Int32 × am_M)
  | 0, _, _, _, _, _, _, _, _, _, _ => none
  | F + 1, 0, r0, x1, x2, x3, l4, x6, x9, l10, M => a_Choice_cheapest_0 rec (g_Choice_cheapest rec F) r0 x1 x2 x3 l4 x6 x9 l10 M
  | F + 1, 1, r0, x1, x2, x3, l4, x6, x9, l10, M => a_Choice_cheapest_1 rec (g_Choice_cheapest rec F) r0 x1 x2 x3 l4 x6 x9 l10 M
  | F + 1, 2, r0, x1, x2, x3, l4, x6, x9, l10, M => a_Choice_cheapest_2 rec (g_Choice_cheapest rec F) r0 x1 x2 x3 l4 x6 x9 l10 M
  | _ + 1, _ + 3, _, _, _, _, _, _, _, _, _ => none
def e_Choice_cheapest (rec : am_M → Nat → Int32 → Option (Int32 × am_M)) (rc : Nat → Nat → Int32 → Int32 → Int32 → Int64 → Int32 → Int32 → Int64 → am_M → Option (Int32 × am_M)) (M : am_M) (a0 : Nat) (a1 : Int32) : Option (Int32 × am_M) := if a1 = 0 then ((q_gtr M a0 7 5).bind (fun t5 => (q_stl M t5 (0 : Int32) (0 : Int64)).bind (fun M10 => some ((0 : Int32), M10)))) else ((q_gtr M a0 7 4).bind (fun t14 => (q_ldi M t14 a1).bind (fun t18 => if t18 = (-1 : Int32) then (rc 0 a0 a1 (a1 &&& (-a1)) (536870912 : Int32) (0 : Int64) (0 : Int32) 0 0 M) else ((q_gtr M a0 7 4).bind (fun t24 => (q_ldi M t24 a1).bind (fun t28 => some (t28, M)))))))
def f_Choice_cheapest : Nat → am_M → Nat → Int32 → Option (Int32 × am_M)
  | 0, _, _, _ => none
  | d + 1, M, a0, a1 => e_Choice_cheapest (f_Choice_cheapest d) (g_Choice_cheapest (f_Choice_cheapest d) 1000000000) M a0 a1
theorem fl_Choice_19 : am_fl "CrewOffice$Choice" 19 7 4 := ⟨by decide, by decide, List.mem_of_getElem? (i := 378) (by decide +kernel)⟩
theorem fl_Choice_22 : am_fl "CrewOffice$Choice" 22 7 5 := ⟨by decide, by decide, List.mem_of_getElem? (i := 379) (by decide +kernel)⟩
theorem fl_Choice_30 : am_fl "CrewOffice$Choice" 30 7 1 := ⟨by decide, by decide, List.mem_of_getElem? (i := 372) (by decide +kernel)⟩
theorem fl_Choice_74 : am_fl "CrewOffice$Choice" 74 6 3 := ⟨by decide, by decide, List.mem_of_getElem? (i := 351) (by decide +kernel)⟩
theorem fl_Choice_77 : am_fl "CrewOffice$Choice" 77 6 2 := ⟨by decide, by decide, List.mem_of_getElem? (i := 348) (by decide +kernel)⟩
theorem fl_Choice_81 : am_fl "CrewOffice$Choice" 81 4 7 := ⟨by decide, by decide, List.mem_of_getElem? (i := 293) (by decide +kernel)⟩
theorem kV_Choice_46 : am_kV "CrewOffice$Choice" 46 7 y_Choice_cheapest u_Choice_cheapest 1 := ⟨List.mem_of_getElem? (i := 605) (by decide +kernel), ⟨List.mem_of_getElem? (i := 607) (by decide +kernel), List.mem_of_getElem? (i := 14) (by decide +kernel)⟩, List.mem_of_getElem? (i := 63) (by decide +kernel), w_Choice_cheapest, ⟨⟨by decide +kernel, by decide +kernel⟩, by decide +kernel⟩⟩
theorem kV_Choice_84 : am_kV "CrewOffice$Choice" 84 7 y_Choice_priceOf u_Choice_priceOf 1 := ⟨List.mem_of_getElem? (i := 610) (by decide +kernel), ⟨List.mem_of_getElem? (i := 612) (by decide +kernel), List.mem_of_getElem? (i := 15) (by decide +kernel)⟩, List.mem_of_getElem? (i := 63) (by decide +kernel), w_Choice_priceOf, ⟨⟨by decide +kernel, by decide +kernel⟩, by decide +kernel⟩⟩
theorem kS_Choice_88 : am_kS "CrewOffice$Choice" 88 y_Choice_bitOf u_Choice_bitOf 1 := ⟨List.mem_of_getElem? (i := 614) (by decide +kernel), List.mem_of_getElem? (i := 615) (by decide +kernel), List.mem_of_getElem? (i := 63) (by decide +kernel), w_Choice_bitOf, ⟨⟨by decide +kernel, by decide +kernel⟩, by decide +kernel⟩⟩
set_option maxHeartbeats 4000000 in
theorem s_Choice_cheapest_0 {d : Nat} {rec : am_M → Nat → Int32 → Option (Int32 × am_M)} (hrec : ∀ {M : am_M} {a0 : Nat} {a1 : Int32} {res : Int32} {M' : am_M}, rec M a0 a1 = some (res, M') → AMet y_Choice_cheapest u_Choice_cheapest (R_Choice_cheapest d) [.ref a0, .int a1] M (fun r M2 => r = .inl (some (.int res)) ∧ M2 = M')) {rc : Nat → Nat → Int32 → Int32 → Int32 → Int64 → Int32 → Int32 → Int64 → am_M → Option (Int32 × am_M)} {res : Int32} {M' : am_M} (ih_0 : ∀ (r0 : Nat) (x1 : Int32) (x2 : Int32) (x3 : Int32) (l4 : Int64) (x6 : Int32) (x9 : Int32) (l10 : Int64) (M : am_M), rc 0 r0 x1 x2 x3 l4 x6 x9 l10 M = some (res, M') → AW u_Choice_cheapest (R_Choice_cheapest (d + 1)) 0 0 44 [(0, .ref r0), (1, .int x1), (2, .int x2), (3, .int x3), (4, .long l4), (6, .int x6)] [] M (fun r M2 => r = .inl (some (.int res)) ∧ M2 = M')) (ih_1 : ∀ (r0 : Nat) (x1 : Int32) (x2 : Int32) (x3 : Int32) (l4 : Int64) (x6 : Int32) (x9 : Int32) (l10 : Int64) (M : am_M), rc 1 r0 x1 x2 x3 l4 x6 x9 l10 M = some (res, M') → AW u_Choice_cheapest (R_Choice_cheapest (d + 1)) 0 0 139 [(0, .ref r0), (1, .int x1), (2, .int x2), (6, .int x6), (9, .int x9), (10, .long l10)] [] M (fun r M2 => r = .inl (some (.int res)) ∧ M2 = M')) (ih_2 : ∀ (r0 : Nat) (x1 : Int32) (x2 : Int32) (x3 : Int32) (l4 : Int64) (x6 : Int32) (x9 : Int32) (l10 : Int64) (M : am_M), rc 2 r0 x1 x2 x3 l4 x6 x9 l10 M = some (res, M') → AW u_Choice_cheapest (R_Choice_cheapest (d + 1)) 0 0 146 [(0, .ref r0), (1, .int x1), (2, .int x2), (3, .int x3), (4, .long l4), (6, .int x6)] [] M (fun r M2 => r = .inl (some (.int res)) ∧ M2 = M')) : ∀ (r0 : Nat) (x1 : Int32) (x2 : Int32) (x3 : Int32) (l4 : Int64) (x6 : Int32) (x9 : Int32) (l10 : Int64) (M : am_M), a_Choice_cheapest_0 rec rc r0 x1 x2 x3 l4 x6 x9 l10 M = some (res, M') → AW u_Choice_cheapest (R_Choice_cheapest (d + 1)) 0 0 44 [(0, .ref r0), (1, .int x1), (2, .int x2), (3, .int x3), (4, .long l4), (6, .int x6)] [] M (fun r M2 => r = .inl (some (.int res)) ∧ M2 = M') := by
  intro r0 x1 x2 x3 l4 x6 x9 l10 M h
  unfold a_Choice_cheapest_0 at h
  refine aw_iload d_Choice_cheapest_44 rfl ?_
  refine aw_aload_n d_Choice_cheapest_46 rfl rfl ?_
  obtain ⟨t47, e_t47, h⟩ := q_bind h
  refine aw_gtr d_Choice_cheapest_47 fl_Choice_30 (Or.inl ⟨_, rfl⟩) e_t47 ?_
  obtain ⟨t50, e_t50, h⟩ := q_bind h
  refine aw_gti d_Choice_cheapest_50 fl_Choice_74 (Or.inl rfl) e_t50 ?_
  refine aw_icmp_ge (tgt := 152) d_Choice_cheapest_53 (by decide) (fun hc => ?_) (fun hc => ?_)
  · rw [if_pos hc] at h
    refine aw_aload_n d_Choice_cheapest_152 rfl rfl ?_
    obtain ⟨t153, e_t153, h⟩ := q_bind h
    refine aw_gtr d_Choice_cheapest_153 fl_Choice_19 (Or.inr ⟨_, rfl⟩) e_t153 ?_
    refine aw_iload_n d_Choice_cheapest_156 rfl rfl ?_
    refine aw_iload_n d_Choice_cheapest_157 rfl rfl ?_
    obtain ⟨M158, e_M158, h⟩ := q_bind h
    refine aw_sti d_Choice_cheapest_158 e_M158 ?_
    refine aw_aload_n d_Choice_cheapest_159 rfl rfl ?_
    obtain ⟨t160, e_t160, h⟩ := q_bind h
    refine aw_gtr d_Choice_cheapest_160 fl_Choice_22 (Or.inr ⟨_, rfl⟩) e_t160 ?_
    refine aw_iload_n d_Choice_cheapest_163 rfl rfl ?_
    refine aw_lload d_Choice_cheapest_164 rfl ?_
    obtain ⟨M166, e_M166, h⟩ := q_bind h
    refine aw_stl d_Choice_cheapest_166 e_M166 ?_
    refine aw_iload_n d_Choice_cheapest_167 rfl rfl ?_
    cases h
    exact aw_ireturn d_Choice_cheapest_168 rfl (Nat.le_of_ble_eq_true rfl) (Nat.le_of_ble_eq_true rfl) ⟨rfl, rfl⟩
  · rw [if_neg hc] at h
    refine aw_aload_n d_Choice_cheapest_56 rfl rfl ?_
    obtain ⟨t57, e_t57, h⟩ := q_bind h
    refine aw_gtr d_Choice_cheapest_57 fl_Choice_30 (Or.inl ⟨_, rfl⟩) e_t57 ?_
    obtain ⟨t60, e_t60, h⟩ := q_bind h
    refine aw_gtr d_Choice_cheapest_60 fl_Choice_77 (Or.inr ⟨_, rfl⟩) e_t60 ?_
    refine aw_iload d_Choice_cheapest_63 rfl ?_
    obtain ⟨t65, e_t65, h⟩ := q_bind h
    refine aw_ldr d_Choice_cheapest_65 e_t65 ?_
    refine aw_astore (ls' := [(7, .ref _), (0, .ref _), (1, .int _), (2, .int _), (3, .int _), (4, .long _), (6, .int _)]) d_Choice_cheapest_66 (Nat.le_of_ble_eq_true rfl) rfl ?_
    refine aw_iload_n d_Choice_cheapest_68 rfl rfl ?_
    refine aw_aload d_Choice_cheapest_69 rfl ?_
    obtain ⟨t71, e_t71, h⟩ := q_bind h
    refine aw_gti d_Choice_cheapest_71 fl_Choice_81 (Or.inl rfl) e_t71 ?_
    refine aw_iconst (v := -1) d_Choice_cheapest_74 (by decide) ?_
    refine aw_ixor d_Choice_cheapest_75 ?_
    refine aw_iand d_Choice_cheapest_76 ?_
    refine aw_istore (ls' := [(8, .int _), (7, .ref _), (0, .ref _), (1, .int _), (2, .int _), (3, .int _), (4, .long _), (6, .int _)]) d_Choice_cheapest_77 (Nat.le_of_ble_eq_true rfl) rfl ?_
    refine aw_aload d_Choice_cheapest_79 rfl ?_
    obtain ⟨t81, e_t81, h⟩ := q_bind h
    refine aw_gti d_Choice_cheapest_81 fl_Choice_81 (Or.inl rfl) e_t81 ?_
    refine aw_iload_n d_Choice_cheapest_84 rfl rfl ?_
    refine aw_iand d_Choice_cheapest_85 ?_
    refine aw_if_eq (tgt := 146) d_Choice_cheapest_86 (by decide) (fun hc => ?_) (fun hc => ?_)
    · rw [if_pos hc] at h
      exact aw_pick [2, 3, 4, 5, 6, 7] rfl (ih_2 _ _ _ _ _ _ _ _ _ h)
    · rw [if_neg hc] at h
      refine aw_aload_n d_Choice_cheapest_89 rfl rfl ?_
      refine aw_aload d_Choice_cheapest_90 rfl ?_
      obtain ⟨o92, e_o92, h⟩ := q_bind h
      obtain ⟨t92, e_t92, h⟩ := q_bind h
      refine aw_cV (v := (some (.int t92))) (As := [.ref t65]) (rest := []) (st' := [.int t92]) d_Choice_cheapest_92 kV_Choice_84 (q_ob_spec e_o92).1 (q_ob_spec e_o92).2 (by refine ⟨?_, ?_, ?_, ?_⟩ <;> simp [u_Choice_priceOf, R_Choice_bitOf, R_Choice_cheapest, R_Choice_priceOf] <;> omega) rfl rfl (Nat.le_of_ble_eq_true rfl) rfl (mt_Choice_priceOf e_t92) ?_
      refine aw_aload_n d_Choice_cheapest_95 rfl rfl ?_
      refine aw_iload d_Choice_cheapest_96 rfl ?_
      obtain ⟨o98, e_o98, h⟩ := q_bind h
      obtain ⟨⟨t98, M98⟩, e_t98, h⟩ := q_bind h
      dsimp only at h
      refine aw_cV (v := (some (.int t98))) (As := [.int (x1 &&& (t71 ^^^ (-1 : Int32)))]) (rest := [.int t92]) (st' := [.int t98, .int t92]) d_Choice_cheapest_98 kV_Choice_46 (q_ob_spec e_o98).1 (q_ob_spec e_o98).2 (by refine ⟨?_, ?_, ?_, ?_⟩ <;> simp [u_Choice_cheapest, R_Choice_bitOf, R_Choice_cheapest, R_Choice_priceOf] <;> omega) rfl rfl (Nat.le_of_ble_eq_true rfl) rfl (hrec e_t98) ?_
      refine aw_iadd d_Choice_cheapest_101 ?_
      refine aw_istore (ls' := [(9, .int _), (8, .int _), (7, .ref _), (0, .ref _), (1, .int _), (2, .int _), (3, .int _), (4, .long _), (6, .int _)]) d_Choice_cheapest_102 (Nat.le_of_ble_eq_true rfl) rfl ?_
      refine aw_iload d_Choice_cheapest_104 rfl ?_
      obtain ⟨t106, e_t106, h⟩ := q_bind h
      refine aw_cS (v := (some (.long t106))) (As := [.int x6]) (rest := []) (st' := [.long t106]) d_Choice_cheapest_106 kS_Choice_88 (by refine ⟨?_, ?_, ?_, ?_⟩ <;> simp [u_Choice_bitOf, R_Choice_bitOf, R_Choice_cheapest, R_Choice_priceOf] <;> omega) rfl rfl (Nat.le_of_ble_eq_true rfl) rfl (mt_Choice_bitOf e_t106) ?_
      refine aw_aload_n d_Choice_cheapest_109 rfl rfl ?_
      obtain ⟨t110, e_t110, h⟩ := q_bind h
      refine aw_gtr d_Choice_cheapest_110 fl_Choice_22 (Or.inr ⟨_, rfl⟩) e_t110 ?_
      refine aw_iload d_Choice_cheapest_113 rfl ?_
      obtain ⟨t115, e_t115, h⟩ := q_bind h
      refine aw_ldl d_Choice_cheapest_115 e_t115 ?_
      refine aw_lor d_Choice_cheapest_116 ?_
      refine aw_lstore (ls' := [(10, .long _), (9, .int _), (8, .int _), (7, .ref _), (0, .ref _), (1, .int _), (2, .int _), (3, .int _), (4, .long _), (6, .int _)]) d_Choice_cheapest_117 (Nat.le_of_ble_eq_true rfl) rfl ?_
      refine aw_iload d_Choice_cheapest_119 rfl ?_
      refine aw_iload_n d_Choice_cheapest_121 rfl rfl ?_
      refine aw_icmp_lt (tgt := 139) d_Choice_cheapest_122 (by decide) (fun hc => ?_) (fun hc => ?_)
      · rw [if_pos hc] at h
        exact aw_pick [4, 5, 6, 9, 1, 0] rfl (ih_1 _ _ _ _ _ _ _ _ _ h)
      · rw [if_neg hc] at h
        refine aw_iload d_Choice_cheapest_125 rfl ?_
        refine aw_iload_n d_Choice_cheapest_127 rfl rfl ?_
        refine aw_icmp_ne (tgt := 146) d_Choice_cheapest_128 (by decide) (fun hc => ?_) (fun hc => ?_)
        · rw [if_neg hc] at h
          exact aw_pick [4, 5, 6, 7, 8, 9] rfl (ih_2 _ _ _ _ _ _ _ _ _ h)
        · rw [if_pos hc] at h
          refine aw_lload d_Choice_cheapest_131 rfl ?_
          refine aw_lload d_Choice_cheapest_133 rfl ?_
          refine aw_lcmp d_Choice_cheapest_135 ?_
          refine aw_if_le (tgt := 146) d_Choice_cheapest_136 (by decide) (fun hc => ?_) (fun hc => ?_)
          · rw [if_pos hc] at h
            exact aw_pick [4, 5, 6, 7, 8, 9] rfl (ih_2 _ _ _ _ _ _ _ _ _ h)
          · rw [if_neg hc] at h
            exact aw_pick [4, 5, 6, 9, 1, 0] rfl (ih_1 _ _ _ _ _ _ _ _ _ h)
set_option maxHeartbeats 4000000 in
theorem s_Choice_cheapest_1 {d : Nat} {rec : am_M → Nat → Int32 → Option (Int32 × am_M)} (hrec : ∀ {M : am_M} {a0 : Nat} {a1 : Int32} {res : Int32} {M' : am_M}, rec M a0 a1 = some (res, M') → AMet y_Choice_cheapest u_Choice_cheapest (R_Choice_cheapest d) [.ref a0, .int a1] M (fun r M2 => r = .inl (some (.int res)) ∧ M2 = M')) {rc : Nat → Nat → Int32 → Int32 → Int32 → Int64 → Int32 → Int32 → Int64 → am_M → Option (Int32 × am_M)} {res : Int32} {M' : am_M} (ih_0 : ∀ (r0 : Nat) (x1 : Int32) (x2 : Int32) (x3 : Int32) (l4 : Int64) (x6 : Int32) (x9 : Int32) (l10 : Int64) (M : am_M), rc 0 r0 x1 x2 x3 l4 x6 x9 l10 M = some (res, M') → AW u_Choice_cheapest (R_Choice_cheapest (d + 1)) 0 0 44 [(0, .ref r0), (1, .int x1), (2, .int x2), (3, .int x3), (4, .long l4), (6, .int x6)] [] M (fun r M2 => r = .inl (some (.int res)) ∧ M2 = M')) (ih_1 : ∀ (r0 : Nat) (x1 : Int32) (x2 : Int32) (x3 : Int32) (l4 : Int64) (x6 : Int32) (x9 : Int32) (l10 : Int64) (M : am_M), rc 1 r0 x1 x2 x3 l4 x6 x9 l10 M = some (res, M') → AW u_Choice_cheapest (R_Choice_cheapest (d + 1)) 0 0 139 [(0, .ref r0), (1, .int x1), (2, .int x2), (6, .int x6), (9, .int x9), (10, .long l10)] [] M (fun r M2 => r = .inl (some (.int res)) ∧ M2 = M')) (ih_2 : ∀ (r0 : Nat) (x1 : Int32) (x2 : Int32) (x3 : Int32) (l4 : Int64) (x6 : Int32) (x9 : Int32) (l10 : Int64) (M : am_M), rc 2 r0 x1 x2 x3 l4 x6 x9 l10 M = some (res, M') → AW u_Choice_cheapest (R_Choice_cheapest (d + 1)) 0 0 146 [(0, .ref r0), (1, .int x1), (2, .int x2), (3, .int x3), (4, .long l4), (6, .int x6)] [] M (fun r M2 => r = .inl (some (.int res)) ∧ M2 = M')) : ∀ (r0 : Nat) (x1 : Int32) (x2 : Int32) (x3 : Int32) (l4 : Int64) (x6 : Int32) (x9 : Int32) (l10 : Int64) (M : am_M), a_Choice_cheapest_1 rec rc r0 x1 x2 x3 l4 x6 x9 l10 M = some (res, M') → AW u_Choice_cheapest (R_Choice_cheapest (d + 1)) 0 0 139 [(0, .ref r0), (1, .int x1), (2, .int x2), (6, .int x6), (9, .int x9), (10, .long l10)] [] M (fun r M2 => r = .inl (some (.int res)) ∧ M2 = M') := by
  intro r0 x1 x2 x3 l4 x6 x9 l10 M h
  unfold a_Choice_cheapest_1 at h
  refine aw_iload d_Choice_cheapest_139 rfl ?_
  refine aw_istore_n (ls' := [(3, .int _), (0, .ref _), (1, .int _), (2, .int _), (6, .int _), (9, .int _), (10, .long _)]) d_Choice_cheapest_141 rfl (Nat.le_of_ble_eq_true rfl) rfl ?_
  refine aw_lload d_Choice_cheapest_142 rfl ?_
  refine aw_lstore (ls' := [(4, .long _), (3, .int _), (0, .ref _), (1, .int _), (2, .int _), (6, .int _), (9, .int _), (10, .long _)]) d_Choice_cheapest_144 (Nat.le_of_ble_eq_true rfl) rfl ?_
  exact aw_pick [2, 3, 4, 1, 0, 5] rfl (ih_2 _ _ _ _ _ _ _ _ _ h)
set_option maxHeartbeats 4000000 in
theorem s_Choice_cheapest_2 {d : Nat} {rec : am_M → Nat → Int32 → Option (Int32 × am_M)} (hrec : ∀ {M : am_M} {a0 : Nat} {a1 : Int32} {res : Int32} {M' : am_M}, rec M a0 a1 = some (res, M') → AMet y_Choice_cheapest u_Choice_cheapest (R_Choice_cheapest d) [.ref a0, .int a1] M (fun r M2 => r = .inl (some (.int res)) ∧ M2 = M')) {rc : Nat → Nat → Int32 → Int32 → Int32 → Int64 → Int32 → Int32 → Int64 → am_M → Option (Int32 × am_M)} {res : Int32} {M' : am_M} (ih_0 : ∀ (r0 : Nat) (x1 : Int32) (x2 : Int32) (x3 : Int32) (l4 : Int64) (x6 : Int32) (x9 : Int32) (l10 : Int64) (M : am_M), rc 0 r0 x1 x2 x3 l4 x6 x9 l10 M = some (res, M') → AW u_Choice_cheapest (R_Choice_cheapest (d + 1)) 0 0 44 [(0, .ref r0), (1, .int x1), (2, .int x2), (3, .int x3), (4, .long l4), (6, .int x6)] [] M (fun r M2 => r = .inl (some (.int res)) ∧ M2 = M')) (ih_1 : ∀ (r0 : Nat) (x1 : Int32) (x2 : Int32) (x3 : Int32) (l4 : Int64) (x6 : Int32) (x9 : Int32) (l10 : Int64) (M : am_M), rc 1 r0 x1 x2 x3 l4 x6 x9 l10 M = some (res, M') → AW u_Choice_cheapest (R_Choice_cheapest (d + 1)) 0 0 139 [(0, .ref r0), (1, .int x1), (2, .int x2), (6, .int x6), (9, .int x9), (10, .long l10)] [] M (fun r M2 => r = .inl (some (.int res)) ∧ M2 = M')) (ih_2 : ∀ (r0 : Nat) (x1 : Int32) (x2 : Int32) (x3 : Int32) (l4 : Int64) (x6 : Int32) (x9 : Int32) (l10 : Int64) (M : am_M), rc 2 r0 x1 x2 x3 l4 x6 x9 l10 M = some (res, M') → AW u_Choice_cheapest (R_Choice_cheapest (d + 1)) 0 0 146 [(0, .ref r0), (1, .int x1), (2, .int x2), (3, .int x3), (4, .long l4), (6, .int x6)] [] M (fun r M2 => r = .inl (some (.int res)) ∧ M2 = M')) : ∀ (r0 : Nat) (x1 : Int32) (x2 : Int32) (x3 : Int32) (l4 : Int64) (x6 : Int32) (x9 : Int32) (l10 : Int64) (M : am_M), a_Choice_cheapest_2 rec rc r0 x1 x2 x3 l4 x6 x9 l10 M = some (res, M') → AW u_Choice_cheapest (R_Choice_cheapest (d + 1)) 0 0 146 [(0, .ref r0), (1, .int x1), (2, .int x2), (3, .int x3), (4, .long l4), (6, .int x6)] [] M (fun r M2 => r = .inl (some (.int res)) ∧ M2 = M') := by
  intro r0 x1 x2 x3 l4 x6 x9 l10 M h
  unfold a_Choice_cheapest_2 at h
  refine aw_iinc (v := (x6 + (1 : Int32))) (ls' := [(6, .int _), (0, .ref _), (1, .int _), (2, .int _), (3, .int _), (4, .long _)]) d_Choice_cheapest_146 rfl rfl (Nat.le_of_ble_eq_true rfl) rfl ?_
  refine aw_goto (tgt := 44) d_Choice_cheapest_149 (by decide) ?_
  exact aw_pick [1, 2, 3, 4, 5, 0] rfl (ih_0 _ _ _ _ _ _ _ _ _ h)
theorem l_Choice_cheapest {d : Nat} {rec : am_M → Nat → Int32 → Option (Int32 × am_M)} (hrec : ∀ {M : am_M} {a0 : Nat} {a1 : Int32} {res : Int32} {M' : am_M}, rec M a0 a1 = some (res, M') → AMet y_Choice_cheapest u_Choice_cheapest (R_Choice_cheapest d) [.ref a0, .int a1] M (fun r M2 => r = .inl (some (.int res)) ∧ M2 = M')) {res : Int32} {M' : am_M} : ∀ F : Nat, (∀ (r0 : Nat) (x1 : Int32) (x2 : Int32) (x3 : Int32) (l4 : Int64) (x6 : Int32) (x9 : Int32) (l10 : Int64) (M : am_M), g_Choice_cheapest rec F 0 r0 x1 x2 x3 l4 x6 x9 l10 M = some (res, M') → AW u_Choice_cheapest (R_Choice_cheapest (d + 1)) 0 0 44 [(0, .ref r0), (1, .int x1), (2, .int x2), (3, .int x3), (4, .long l4), (6, .int x6)] [] M (fun r M2 => r = .inl (some (.int res)) ∧ M2 = M')) ∧ (∀ (r0 : Nat) (x1 : Int32) (x2 : Int32) (x3 : Int32) (l4 : Int64) (x6 : Int32) (x9 : Int32) (l10 : Int64) (M : am_M), g_Choice_cheapest rec F 1 r0 x1 x2 x3 l4 x6 x9 l10 M = some (res, M') → AW u_Choice_cheapest (R_Choice_cheapest (d + 1)) 0 0 139 [(0, .ref r0), (1, .int x1), (2, .int x2), (6, .int x6), (9, .int x9), (10, .long l10)] [] M (fun r M2 => r = .inl (some (.int res)) ∧ M2 = M')) ∧ (∀ (r0 : Nat) (x1 : Int32) (x2 : Int32) (x3 : Int32) (l4 : Int64) (x6 : Int32) (x9 : Int32) (l10 : Int64) (M : am_M), g_Choice_cheapest rec F 2 r0 x1 x2 x3 l4 x6 x9 l10 M = some (res, M') → AW u_Choice_cheapest (R_Choice_cheapest (d + 1)) 0 0 146 [(0, .ref r0), (1, .int x1), (2, .int x2), (3, .int x3), (4, .long l4), (6, .int x6)] [] M (fun r M2 => r = .inl (some (.int res)) ∧ M2 = M')) := by
  intro F
  induction F with
  | zero => exact ⟨fun _ _ _ _ _ _ _ _ _  h => (by cases h), fun _ _ _ _ _ _ _ _ _  h => (by cases h), fun _ _ _ _ _ _ _ _ _  h => (by cases h)⟩
  | succ F ih =>
    obtain ⟨ih0, ih1, ih2⟩ := ih
    exact ⟨s_Choice_cheapest_0 hrec ih0 ih1 ih2, s_Choice_cheapest_1 hrec ih0 ih1 ih2, s_Choice_cheapest_2 hrec ih0 ih1 ih2⟩
set_option maxHeartbeats 4000000 in
theorem mr_Choice_cheapest {d : Nat} {rec : am_M → Nat → Int32 → Option (Int32 × am_M)} (hrec : ∀ {M : am_M} {a0 : Nat} {a1 : Int32} {res : Int32} {M' : am_M}, rec M a0 a1 = some (res, M') → AMet y_Choice_cheapest u_Choice_cheapest (R_Choice_cheapest d) [.ref a0, .int a1] M (fun r M2 => r = .inl (some (.int res)) ∧ M2 = M')) {M : am_M} {a0 : Nat} {a1 : Int32} {res : Int32} {M' : am_M} (h : e_Choice_cheapest rec (g_Choice_cheapest rec 1000000000) M a0 a1 = some (res, M')) : AMet y_Choice_cheapest u_Choice_cheapest (R_Choice_cheapest (d + 1)) [.ref a0, .int a1] M (fun r M2 => r = .inl (some (.int res)) ∧ M2 = M') := by
  refine am_met (by decide +kernel) w_Choice_cheapest rfl rfl (Nat.le_of_ble_eq_true rfl) ?_
  show AW u_Choice_cheapest (R_Choice_cheapest (d + 1)) 0 0 0 [(0, .ref a0), (1, .int a1)] [] M (fun r M2 => r = .inl (some (.int res)) ∧ M2 = M')
  have ih_0 := (l_Choice_cheapest hrec (res := res) (M' := M') 1000000000).1
  have ih_1 := (l_Choice_cheapest hrec (res := res) (M' := M') 1000000000).2.1
  have ih_2 := (l_Choice_cheapest hrec (res := res) (M' := M') 1000000000).2.2
  unfold e_Choice_cheapest at h
  generalize g_Choice_cheapest rec 1000000000 = rc at h ih_0 ih_1 ih_2
  refine aw_iload_n d_Choice_cheapest_0 rfl rfl ?_
  refine aw_if_ne (tgt := 13) d_Choice_cheapest_1 (by decide) (fun hc => ?_) (fun hc => ?_)
  · rw [if_neg hc] at h
    refine aw_aload_n d_Choice_cheapest_13 rfl rfl ?_
    obtain ⟨t14, e_t14, h⟩ := q_bind h
    refine aw_gtr d_Choice_cheapest_14 fl_Choice_19 (Or.inr ⟨_, rfl⟩) e_t14 ?_
    refine aw_iload_n d_Choice_cheapest_17 rfl rfl ?_
    obtain ⟨t18, e_t18, h⟩ := q_bind h
    refine aw_ldi d_Choice_cheapest_18 e_t18 ?_
    refine aw_iconst (v := -1) d_Choice_cheapest_19 (by decide) ?_
    refine aw_icmp_eq (tgt := 30) d_Choice_cheapest_20 (by decide) (fun hc => ?_) (fun hc => ?_)
    · rw [if_pos hc] at h
      refine aw_iload_n d_Choice_cheapest_30 rfl rfl ?_
      refine aw_iload_n d_Choice_cheapest_31 rfl rfl ?_
      refine aw_ineg d_Choice_cheapest_32 ?_
      refine aw_iand d_Choice_cheapest_33 ?_
      refine aw_istore_n (ls' := [(2, .int _), (0, .ref _), (1, .int _)]) d_Choice_cheapest_34 rfl (Nat.le_of_ble_eq_true rfl) rfl ?_
      refine aw_ldc (v := 536870912) d_Choice_cheapest_35 (List.mem_of_getElem? (i := 609) (by decide +kernel)) ?_
      refine aw_istore_n (ls' := [(3, .int _), (2, .int _), (0, .ref _), (1, .int _)]) d_Choice_cheapest_37 rfl (Nat.le_of_ble_eq_true rfl) rfl ?_
      refine aw_lconst (v := 0) d_Choice_cheapest_38 (by decide) ?_
      refine aw_lstore (ls' := [(4, .long _), (3, .int _), (2, .int _), (0, .ref _), (1, .int _)]) d_Choice_cheapest_39 (Nat.le_of_ble_eq_true rfl) rfl ?_
      refine aw_iconst (v := 0) d_Choice_cheapest_41 (by decide) ?_
      refine aw_istore (ls' := [(6, .int _), (4, .long _), (3, .int _), (2, .int _), (0, .ref _), (1, .int _)]) d_Choice_cheapest_42 (Nat.le_of_ble_eq_true rfl) rfl ?_
      exact aw_pick [4, 5, 3, 2, 1, 0] rfl (ih_0 _ _ _ _ _ _ _ _ _ h)
    · rw [if_neg hc] at h
      refine aw_aload_n d_Choice_cheapest_23 rfl rfl ?_
      obtain ⟨t24, e_t24, h⟩ := q_bind h
      refine aw_gtr d_Choice_cheapest_24 fl_Choice_19 (Or.inr ⟨_, rfl⟩) e_t24 ?_
      refine aw_iload_n d_Choice_cheapest_27 rfl rfl ?_
      obtain ⟨t28, e_t28, h⟩ := q_bind h
      refine aw_ldi d_Choice_cheapest_28 e_t28 ?_
      cases h
      exact aw_ireturn d_Choice_cheapest_29 rfl (Nat.le_of_ble_eq_true rfl) (Nat.le_of_ble_eq_true rfl) ⟨rfl, rfl⟩
  · rw [if_pos hc] at h
    refine aw_aload_n d_Choice_cheapest_4 rfl rfl ?_
    obtain ⟨t5, e_t5, h⟩ := q_bind h
    refine aw_gtr d_Choice_cheapest_5 fl_Choice_22 (Or.inr ⟨_, rfl⟩) e_t5 ?_
    refine aw_iconst (v := 0) d_Choice_cheapest_8 (by decide) ?_
    refine aw_lconst (v := 0) d_Choice_cheapest_9 (by decide) ?_
    obtain ⟨M10, e_M10, h⟩ := q_bind h
    refine aw_stl d_Choice_cheapest_10 e_M10 ?_
    refine aw_iconst (v := 0) d_Choice_cheapest_11 (by decide) ?_
    cases h
    exact aw_ireturn d_Choice_cheapest_12 rfl (Nat.le_of_ble_eq_true rfl) (Nat.le_of_ble_eq_true rfl) ⟨rfl, rfl⟩
theorem mt_Choice_cheapest : ∀ (d : Nat) {M : am_M} {a0 : Nat} {a1 : Int32} {res : Int32} {M' : am_M}, f_Choice_cheapest d M a0 a1 = some (res, M') → AMet y_Choice_cheapest u_Choice_cheapest (R_Choice_cheapest d) [.ref a0, .int a1] M (fun r M2 => r = .inl (some (.int res)) ∧ M2 = M')
  | 0, _, _, _, _, _, h => by cases h
  | d + 1, _, _, _, _, _, h => mr_Choice_cheapest (fun h => mt_Choice_cheapest d h) h
def y_Choice_take : MethodName := ⟨"CrewOffice$Choice", "take", "(J)V"⟩
def u_Choice_take : am_U := ("CrewOffice$Choice", "take", prog_2_method_7_code, 4, none, [])
def R_Choice_take : Room := { frames := 1, cells := 0, slots := 0, locals := 20 }
theorem d_Choice_take_0 : decode u_Choice_take.2.2.1 0 = .ok (.aload_n 0, 1) := by decide +kernel
theorem d_Choice_take_1 : decode u_Choice_take.2.2.1 1 = .ok (.iconst 0, 1) := by decide +kernel
theorem d_Choice_take_2 : decode u_Choice_take.2.2.1 2 = .ok (.putfield 15, 3) := by decide +kernel
theorem d_Choice_take_5 : decode u_Choice_take.2.2.1 5 = .ok (.iconst 0, 1) := by decide +kernel
theorem d_Choice_take_6 : decode u_Choice_take.2.2.1 6 = .ok (.istore_n 3, 1) := by decide +kernel
theorem d_Choice_take_7 : decode u_Choice_take.2.2.1 7 = .ok (.iload_n 3, 1) := by decide +kernel
theorem d_Choice_take_8 : decode u_Choice_take.2.2.1 8 = .ok (.aload_n 0, 1) := by decide +kernel
theorem d_Choice_take_9 : decode u_Choice_take.2.2.1 9 = .ok (.getfield 30, 3) := by decide +kernel
theorem d_Choice_take_12 : decode u_Choice_take.2.2.1 12 = .ok (.getfield 74, 3) := by decide +kernel
theorem d_Choice_take_15 : decode u_Choice_take.2.2.1 15 = .ok (.if_icmp .ge 49, 3) := by decide +kernel
theorem d_Choice_take_18 : decode u_Choice_take.2.2.1 18 = .ok (.aload_n 0, 1) := by decide +kernel
theorem d_Choice_take_19 : decode u_Choice_take.2.2.1 19 = .ok (.getfield 15, 3) := by decide +kernel
theorem d_Choice_take_22 : decode u_Choice_take.2.2.1 22 = .ok (.bipush 12, 2) := by decide +kernel
theorem d_Choice_take_24 : decode u_Choice_take.2.2.1 24 = .ok (.if_icmp .ge 40, 3) := by decide +kernel
theorem d_Choice_take_27 : decode u_Choice_take.2.2.1 27 = .ok (.lload_n 1, 1) := by decide +kernel
theorem d_Choice_take_28 : decode u_Choice_take.2.2.1 28 = .ok (.iload_n 3, 1) := by decide +kernel
theorem d_Choice_take_29 : decode u_Choice_take.2.2.1 29 = .ok (.invokestatic 88, 3) := by decide +kernel
theorem d_Choice_take_32 : decode u_Choice_take.2.2.1 32 = .ok (.land, 1) := by decide +kernel
theorem d_Choice_take_33 : decode u_Choice_take.2.2.1 33 = .ok (.lconst 0, 1) := by decide +kernel
theorem d_Choice_take_34 : decode u_Choice_take.2.2.1 34 = .ok (.lcmp, 1) := by decide +kernel
theorem d_Choice_take_35 : decode u_Choice_take.2.2.1 35 = .ok (.ifCond .eq 23, 3) := by decide +kernel
theorem d_Choice_take_38 : decode u_Choice_take.2.2.1 38 = .ok (.aload_n 0, 1) := by decide +kernel
theorem d_Choice_take_39 : decode u_Choice_take.2.2.1 39 = .ok (.getfield 9, 3) := by decide +kernel
theorem d_Choice_take_42 : decode u_Choice_take.2.2.1 42 = .ok (.aload_n 0, 1) := by decide +kernel
theorem d_Choice_take_43 : decode u_Choice_take.2.2.1 43 = .ok (.getfield 15, 3) := by decide +kernel
theorem d_Choice_take_46 : decode u_Choice_take.2.2.1 46 = .ok (.iload_n 3, 1) := by decide +kernel
theorem d_Choice_take_47 : decode u_Choice_take.2.2.1 47 = .ok (.iastore, 1) := by decide +kernel
theorem d_Choice_take_48 : decode u_Choice_take.2.2.1 48 = .ok (.aload_n 0, 1) := by decide +kernel
theorem d_Choice_take_49 : decode u_Choice_take.2.2.1 49 = .ok (.dup, 1) := by decide +kernel
theorem d_Choice_take_50 : decode u_Choice_take.2.2.1 50 = .ok (.getfield 15, 3) := by decide +kernel
theorem d_Choice_take_53 : decode u_Choice_take.2.2.1 53 = .ok (.iconst 1, 1) := by decide +kernel
theorem d_Choice_take_54 : decode u_Choice_take.2.2.1 54 = .ok (.iadd, 1) := by decide +kernel
theorem d_Choice_take_55 : decode u_Choice_take.2.2.1 55 = .ok (.putfield 15, 3) := by decide +kernel
theorem d_Choice_take_58 : decode u_Choice_take.2.2.1 58 = .ok (.iinc 3 1, 3) := by decide +kernel
theorem d_Choice_take_61 : decode u_Choice_take.2.2.1 61 = .ok (.goto (-54), 3) := by decide +kernel
theorem d_Choice_take_64 : decode u_Choice_take.2.2.1 64 = .ok (.return_, 1) := by decide +kernel
theorem w_Choice_take : am_code y_Choice_take u_Choice_take ∈ am_ws := am_mem (List.mem_of_getElem? (i := 620) (by decide +kernel)) rfl
def a_Choice_take_0 (rc : Nat → Nat → Int64 → Int32 → am_M → Option (Unit × am_M)) (r0 : Nat) (l1 : Int64) (x3 : Int32) (M : am_M) : Option (Unit × am_M) := (q_gtr M r0 7 1).bind (fun t9 => (q_gti M t9 6 3).bind (fun t12 => if t12 ≤ x3 then (some ((), M)) else ((q_gti M r0 7 3).bind (fun t19 => if (12 : Int32) ≤ t19 then (some ((), M)) else ((f_Choice_bitOf M x3).bind (fun t29 => if (lg_cmp (l1 &&& t29) (0 : Int64)) = 0 then (rc 1 r0 l1 x3 M) else ((q_gtr M r0 7 2).bind (fun t39 => (q_gti M r0 7 3).bind (fun t43 => (q_sti M t39 t43 x3).bind (fun M47 => (q_gti M47 r0 7 3).bind (fun t50 => (q_pti M47 r0 7 3 (t50 + (1 : Int32))).bind (fun M55 => rc 1 r0 l1 x3 M55))))))))))))
def a_Choice_take_1 (rc : Nat → Nat → Int64 → Int32 → am_M → Option (Unit × am_M)) (r0 : Nat) (l1 : Int64) (x3 : Int32) (M : am_M) : Option (Unit × am_M) := rc 0 r0 l1 (x3 + (1 : Int32)) M
def g_Choice_take : Nat → Nat → Nat → Int64 → Int32 → am_M → Option (Unit × am_M)
  | 0, _, _, _, _, _ => none
  | F + 1, 0, r0, l1, x3, M => a_Choice_take_0 (g_Choice_take F) r0 l1 x3 M
  | F + 1, 1, r0, l1, x3, M => a_Choice_take_1 (g_Choice_take F) r0 l1 x3 M
  | _ + 1, _ + 2, _, _, _, _ => none
def e_Choice_take (rc : Nat → Nat → Int64 → Int32 → am_M → Option (Unit × am_M)) (M : am_M) (a0 : Nat) (a1 : Int64) : Option (Unit × am_M) := (q_pti M a0 7 3 (0 : Int32)).bind (fun M2 => rc 0 a0 a1 (0 : Int32) M2)
def f_Choice_take (M : am_M) (a0 : Nat) (a1 : Int64) : Option (Unit × am_M) := e_Choice_take (g_Choice_take 1000000000) M a0 a1
theorem fl_Choice_9 : am_fl "CrewOffice$Choice" 9 7 2 := ⟨by decide, by decide, List.mem_of_getElem? (i := 373) (by decide +kernel)⟩
set_option maxHeartbeats 4000000 in
theorem s_Choice_take_0 {rc : Nat → Nat → Int64 → Int32 → am_M → Option (Unit × am_M)} {res : Unit} {M' : am_M} (ih_0 : ∀ (r0 : Nat) (l1 : Int64) (x3 : Int32) (M : am_M), rc 0 r0 l1 x3 M = some (res, M') → AW u_Choice_take R_Choice_take 0 0 7 [(0, .ref r0), (1, .long l1), (3, .int x3)] [] M (fun r M2 => r = .inl none ∧ M2 = M')) (ih_1 : ∀ (r0 : Nat) (l1 : Int64) (x3 : Int32) (M : am_M), rc 1 r0 l1 x3 M = some (res, M') → AW u_Choice_take R_Choice_take 0 0 58 [(0, .ref r0), (1, .long l1), (3, .int x3)] [] M (fun r M2 => r = .inl none ∧ M2 = M')) : ∀ (r0 : Nat) (l1 : Int64) (x3 : Int32) (M : am_M), a_Choice_take_0 rc r0 l1 x3 M = some (res, M') → AW u_Choice_take R_Choice_take 0 0 7 [(0, .ref r0), (1, .long l1), (3, .int x3)] [] M (fun r M2 => r = .inl none ∧ M2 = M') := by
  intro r0 l1 x3 M h
  unfold a_Choice_take_0 at h
  refine aw_iload_n d_Choice_take_7 rfl rfl ?_
  refine aw_aload_n d_Choice_take_8 rfl rfl ?_
  obtain ⟨t9, e_t9, h⟩ := q_bind h
  refine aw_gtr d_Choice_take_9 fl_Choice_30 (Or.inl ⟨_, rfl⟩) e_t9 ?_
  obtain ⟨t12, e_t12, h⟩ := q_bind h
  refine aw_gti d_Choice_take_12 fl_Choice_74 (Or.inl rfl) e_t12 ?_
  refine aw_icmp_ge (tgt := 64) d_Choice_take_15 (by decide) (fun hc => ?_) (fun hc => ?_)
  · rw [if_pos hc] at h
    cases h
    exact aw_vreturn d_Choice_take_64 rfl (Nat.le_of_ble_eq_true rfl) (Nat.le_of_ble_eq_true rfl) ⟨rfl, rfl⟩
  · rw [if_neg hc] at h
    refine aw_aload_n d_Choice_take_18 rfl rfl ?_
    obtain ⟨t19, e_t19, h⟩ := q_bind h
    refine aw_gti d_Choice_take_19 fl_Choice_15 (Or.inl rfl) e_t19 ?_
    refine aw_bipush (v := 12) d_Choice_take_22 (by decide) ?_
    refine aw_icmp_ge (tgt := 64) d_Choice_take_24 (by decide) (fun hc => ?_) (fun hc => ?_)
    · rw [if_pos hc] at h
      cases h
      exact aw_vreturn d_Choice_take_64 rfl (Nat.le_of_ble_eq_true rfl) (Nat.le_of_ble_eq_true rfl) ⟨rfl, rfl⟩
    · rw [if_neg hc] at h
      refine aw_lload_n d_Choice_take_27 rfl rfl ?_
      refine aw_iload_n d_Choice_take_28 rfl rfl ?_
      obtain ⟨t29, e_t29, h⟩ := q_bind h
      refine aw_cS (v := (some (.long t29))) (As := [.int x3]) (rest := [.long l1]) (st' := [.long t29, .long l1]) d_Choice_take_29 kS_Choice_88 ⟨Nat.le_of_ble_eq_true rfl, Nat.le_of_ble_eq_true rfl, Nat.le_of_ble_eq_true rfl, Nat.le_of_ble_eq_true rfl⟩ rfl rfl (Nat.le_of_ble_eq_true rfl) rfl (mt_Choice_bitOf e_t29) ?_
      refine aw_land d_Choice_take_32 ?_
      refine aw_lconst (v := 0) d_Choice_take_33 (by decide) ?_
      refine aw_lcmp d_Choice_take_34 ?_
      refine aw_if_eq (tgt := 58) d_Choice_take_35 (by decide) (fun hc => ?_) (fun hc => ?_)
      · rw [if_pos hc] at h
        exact aw_pick [0, 1, 2] rfl (ih_1 _ _ _ _ h)
      · rw [if_neg hc] at h
        refine aw_aload_n d_Choice_take_38 rfl rfl ?_
        obtain ⟨t39, e_t39, h⟩ := q_bind h
        refine aw_gtr d_Choice_take_39 fl_Choice_9 (Or.inr ⟨_, rfl⟩) e_t39 ?_
        refine aw_aload_n d_Choice_take_42 rfl rfl ?_
        obtain ⟨t43, e_t43, h⟩ := q_bind h
        refine aw_gti d_Choice_take_43 fl_Choice_15 (Or.inl rfl) e_t43 ?_
        refine aw_iload_n d_Choice_take_46 rfl rfl ?_
        obtain ⟨M47, e_M47, h⟩ := q_bind h
        refine aw_sti d_Choice_take_47 e_M47 ?_
        refine aw_aload_n d_Choice_take_48 rfl rfl ?_
        refine aw_dup d_Choice_take_49 rfl ?_
        obtain ⟨t50, e_t50, h⟩ := q_bind h
        refine aw_gti d_Choice_take_50 fl_Choice_15 (Or.inl rfl) e_t50 ?_
        refine aw_iconst (v := 1) d_Choice_take_53 (by decide) ?_
        refine aw_iadd d_Choice_take_54 ?_
        obtain ⟨M55, e_M55, h⟩ := q_bind h
        refine aw_pti d_Choice_take_55 fl_Choice_15 rfl rfl e_M55 ?_
        exact aw_pick [0, 1, 2] rfl (ih_1 _ _ _ _ h)
set_option maxHeartbeats 4000000 in
theorem s_Choice_take_1 {rc : Nat → Nat → Int64 → Int32 → am_M → Option (Unit × am_M)} {res : Unit} {M' : am_M} (ih_0 : ∀ (r0 : Nat) (l1 : Int64) (x3 : Int32) (M : am_M), rc 0 r0 l1 x3 M = some (res, M') → AW u_Choice_take R_Choice_take 0 0 7 [(0, .ref r0), (1, .long l1), (3, .int x3)] [] M (fun r M2 => r = .inl none ∧ M2 = M')) (ih_1 : ∀ (r0 : Nat) (l1 : Int64) (x3 : Int32) (M : am_M), rc 1 r0 l1 x3 M = some (res, M') → AW u_Choice_take R_Choice_take 0 0 58 [(0, .ref r0), (1, .long l1), (3, .int x3)] [] M (fun r M2 => r = .inl none ∧ M2 = M')) : ∀ (r0 : Nat) (l1 : Int64) (x3 : Int32) (M : am_M), a_Choice_take_1 rc r0 l1 x3 M = some (res, M') → AW u_Choice_take R_Choice_take 0 0 58 [(0, .ref r0), (1, .long l1), (3, .int x3)] [] M (fun r M2 => r = .inl none ∧ M2 = M') := by
  intro r0 l1 x3 M h
  unfold a_Choice_take_1 at h
  refine aw_iinc (v := (x3 + (1 : Int32))) (ls' := [(3, .int _), (0, .ref _), (1, .long _)]) d_Choice_take_58 rfl rfl (Nat.le_of_ble_eq_true rfl) rfl ?_
  refine aw_goto (tgt := 7) d_Choice_take_61 (by decide) ?_
  exact aw_pick [1, 2, 0] rfl (ih_0 _ _ _ _ h)
theorem l_Choice_take {res : Unit} {M' : am_M} : ∀ F : Nat, (∀ (r0 : Nat) (l1 : Int64) (x3 : Int32) (M : am_M), g_Choice_take F 0 r0 l1 x3 M = some (res, M') → AW u_Choice_take R_Choice_take 0 0 7 [(0, .ref r0), (1, .long l1), (3, .int x3)] [] M (fun r M2 => r = .inl none ∧ M2 = M')) ∧ (∀ (r0 : Nat) (l1 : Int64) (x3 : Int32) (M : am_M), g_Choice_take F 1 r0 l1 x3 M = some (res, M') → AW u_Choice_take R_Choice_take 0 0 58 [(0, .ref r0), (1, .long l1), (3, .int x3)] [] M (fun r M2 => r = .inl none ∧ M2 = M')) := by
  intro F
  induction F with
  | zero => exact ⟨fun _ _ _ _  h => (by cases h), fun _ _ _ _  h => (by cases h)⟩
  | succ F ih =>
    obtain ⟨ih0, ih1⟩ := ih
    exact ⟨s_Choice_take_0 ih0 ih1, s_Choice_take_1 ih0 ih1⟩
set_option maxHeartbeats 4000000 in
theorem mt_Choice_take {M : am_M} {a0 : Nat} {a1 : Int64} {res : Unit} {M' : am_M} (h : f_Choice_take M a0 a1 = some (res, M')) : AMet y_Choice_take u_Choice_take R_Choice_take [.ref a0, .long a1] M (fun r M2 => r = .inl none ∧ M2 = M') := by
  refine am_met (by decide +kernel) w_Choice_take rfl rfl (Nat.le_of_ble_eq_true rfl) ?_
  show AW u_Choice_take R_Choice_take 0 0 0 [(0, .ref a0), (1, .long a1)] [] M (fun r M2 => r = .inl none ∧ M2 = M')
  have ih_0 := (l_Choice_take (res := res) (M' := M') 1000000000).1
  have ih_1 := (l_Choice_take (res := res) (M' := M') 1000000000).2
  unfold f_Choice_take at h
  unfold e_Choice_take at h
  generalize g_Choice_take 1000000000 = rc at h ih_0 ih_1
  refine aw_aload_n d_Choice_take_0 rfl rfl ?_
  refine aw_iconst (v := 0) d_Choice_take_1 (by decide) ?_
  obtain ⟨M2, e_M2, h⟩ := q_bind h
  refine aw_pti d_Choice_take_2 fl_Choice_15 rfl rfl e_M2 ?_
  refine aw_iconst (v := 0) d_Choice_take_5 (by decide) ?_
  refine aw_istore_n (ls' := [(3, .int _), (0, .ref _), (1, .long _)]) d_Choice_take_6 rfl (Nat.le_of_ble_eq_true rfl) rfl ?_
  exact aw_pick [1, 2, 0] rfl (ih_0 _ _ _ _ h)
