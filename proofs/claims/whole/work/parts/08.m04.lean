-- Model_copies Model_pairing Model_isBetter Model_covers Model_bid
def y_Model_copies : MethodName := ⟨"CrewOfficeModel", "copies", "(II)V"⟩
def u_Model_copies : am_U := ("CrewOfficeModel", "copies", prog_12_method_35_code, 4, none, [])
def R_Model_copies : Room := { frames := 0, cells := 0, slots := 0, locals := 0 }
theorem d_Model_copies_0 : decode u_Model_copies.2.2.1 0 = .ok (.iconst 0, 1) := by decide +kernel
theorem d_Model_copies_1 : decode u_Model_copies.2.2.1 1 = .ok (.istore_n 3, 1) := by decide +kernel
theorem d_Model_copies_2 : decode u_Model_copies.2.2.1 2 = .ok (.iload_n 3, 1) := by decide +kernel
theorem d_Model_copies_3 : decode u_Model_copies.2.2.1 3 = .ok (.bipush 8, 2) := by decide +kernel
theorem d_Model_copies_5 : decode u_Model_copies.2.2.1 5 = .ok (.if_icmp .ge 31, 3) := by decide +kernel
theorem d_Model_copies_8 : decode u_Model_copies.2.2.1 8 = .ok (.aload_n 0, 1) := by decide +kernel
theorem d_Model_copies_9 : decode u_Model_copies.2.2.1 9 = .ok (.getfield 106, 3) := by decide +kernel
theorem d_Model_copies_12 : decode u_Model_copies.2.2.1 12 = .ok (.bipush 8, 2) := by decide +kernel
theorem d_Model_copies_14 : decode u_Model_copies.2.2.1 14 = .ok (.iload_n 2, 1) := by decide +kernel
theorem d_Model_copies_15 : decode u_Model_copies.2.2.1 15 = .ok (.imul, 1) := by decide +kernel
theorem d_Model_copies_16 : decode u_Model_copies.2.2.1 16 = .ok (.iload_n 3, 1) := by decide +kernel
theorem d_Model_copies_17 : decode u_Model_copies.2.2.1 17 = .ok (.iadd, 1) := by decide +kernel
theorem d_Model_copies_18 : decode u_Model_copies.2.2.1 18 = .ok (.aload_n 0, 1) := by decide +kernel
theorem d_Model_copies_19 : decode u_Model_copies.2.2.1 19 = .ok (.getfield 106, 3) := by decide +kernel
theorem d_Model_copies_22 : decode u_Model_copies.2.2.1 22 = .ok (.bipush 8, 2) := by decide +kernel
theorem d_Model_copies_24 : decode u_Model_copies.2.2.1 24 = .ok (.iload_n 1, 1) := by decide +kernel
theorem d_Model_copies_25 : decode u_Model_copies.2.2.1 25 = .ok (.imul, 1) := by decide +kernel
theorem d_Model_copies_26 : decode u_Model_copies.2.2.1 26 = .ok (.iload_n 3, 1) := by decide +kernel
theorem d_Model_copies_27 : decode u_Model_copies.2.2.1 27 = .ok (.iadd, 1) := by decide +kernel
theorem d_Model_copies_28 : decode u_Model_copies.2.2.1 28 = .ok (.iaload, 1) := by decide +kernel
theorem d_Model_copies_29 : decode u_Model_copies.2.2.1 29 = .ok (.iastore, 1) := by decide +kernel
theorem d_Model_copies_30 : decode u_Model_copies.2.2.1 30 = .ok (.iinc 3 1, 3) := by decide +kernel
theorem d_Model_copies_33 : decode u_Model_copies.2.2.1 33 = .ok (.goto (-31), 3) := by decide +kernel
theorem d_Model_copies_36 : decode u_Model_copies.2.2.1 36 = .ok (.aload_n 0, 1) := by decide +kernel
theorem d_Model_copies_37 : decode u_Model_copies.2.2.1 37 = .ok (.getfield 109, 3) := by decide +kernel
theorem d_Model_copies_40 : decode u_Model_copies.2.2.1 40 = .ok (.iload_n 2, 1) := by decide +kernel
theorem d_Model_copies_41 : decode u_Model_copies.2.2.1 41 = .ok (.aload_n 0, 1) := by decide +kernel
theorem d_Model_copies_42 : decode u_Model_copies.2.2.1 42 = .ok (.getfield 109, 3) := by decide +kernel
theorem d_Model_copies_45 : decode u_Model_copies.2.2.1 45 = .ok (.iload_n 1, 1) := by decide +kernel
theorem d_Model_copies_46 : decode u_Model_copies.2.2.1 46 = .ok (.iaload, 1) := by decide +kernel
theorem d_Model_copies_47 : decode u_Model_copies.2.2.1 47 = .ok (.iastore, 1) := by decide +kernel
theorem d_Model_copies_48 : decode u_Model_copies.2.2.1 48 = .ok (.aload_n 0, 1) := by decide +kernel
theorem d_Model_copies_49 : decode u_Model_copies.2.2.1 49 = .ok (.getfield 112, 3) := by decide +kernel
theorem d_Model_copies_52 : decode u_Model_copies.2.2.1 52 = .ok (.iload_n 2, 1) := by decide +kernel
theorem d_Model_copies_53 : decode u_Model_copies.2.2.1 53 = .ok (.aload_n 0, 1) := by decide +kernel
theorem d_Model_copies_54 : decode u_Model_copies.2.2.1 54 = .ok (.getfield 112, 3) := by decide +kernel
theorem d_Model_copies_57 : decode u_Model_copies.2.2.1 57 = .ok (.iload_n 1, 1) := by decide +kernel
theorem d_Model_copies_58 : decode u_Model_copies.2.2.1 58 = .ok (.iaload, 1) := by decide +kernel
theorem d_Model_copies_59 : decode u_Model_copies.2.2.1 59 = .ok (.iastore, 1) := by decide +kernel
theorem d_Model_copies_60 : decode u_Model_copies.2.2.1 60 = .ok (.aload_n 0, 1) := by decide +kernel
theorem d_Model_copies_61 : decode u_Model_copies.2.2.1 61 = .ok (.getfield 115, 3) := by decide +kernel
theorem d_Model_copies_64 : decode u_Model_copies.2.2.1 64 = .ok (.iload_n 2, 1) := by decide +kernel
theorem d_Model_copies_65 : decode u_Model_copies.2.2.1 65 = .ok (.aload_n 0, 1) := by decide +kernel
theorem d_Model_copies_66 : decode u_Model_copies.2.2.1 66 = .ok (.getfield 115, 3) := by decide +kernel
theorem d_Model_copies_69 : decode u_Model_copies.2.2.1 69 = .ok (.iload_n 1, 1) := by decide +kernel
theorem d_Model_copies_70 : decode u_Model_copies.2.2.1 70 = .ok (.iaload, 1) := by decide +kernel
theorem d_Model_copies_71 : decode u_Model_copies.2.2.1 71 = .ok (.iastore, 1) := by decide +kernel
theorem d_Model_copies_72 : decode u_Model_copies.2.2.1 72 = .ok (.aload_n 0, 1) := by decide +kernel
theorem d_Model_copies_73 : decode u_Model_copies.2.2.1 73 = .ok (.getfield 118, 3) := by decide +kernel
theorem d_Model_copies_76 : decode u_Model_copies.2.2.1 76 = .ok (.iload_n 2, 1) := by decide +kernel
theorem d_Model_copies_77 : decode u_Model_copies.2.2.1 77 = .ok (.aload_n 0, 1) := by decide +kernel
theorem d_Model_copies_78 : decode u_Model_copies.2.2.1 78 = .ok (.getfield 118, 3) := by decide +kernel
theorem d_Model_copies_81 : decode u_Model_copies.2.2.1 81 = .ok (.iload_n 1, 1) := by decide +kernel
theorem d_Model_copies_82 : decode u_Model_copies.2.2.1 82 = .ok (.iaload, 1) := by decide +kernel
theorem d_Model_copies_83 : decode u_Model_copies.2.2.1 83 = .ok (.iastore, 1) := by decide +kernel
theorem d_Model_copies_84 : decode u_Model_copies.2.2.1 84 = .ok (.aload_n 0, 1) := by decide +kernel
theorem d_Model_copies_85 : decode u_Model_copies.2.2.1 85 = .ok (.getfield 121, 3) := by decide +kernel
theorem d_Model_copies_88 : decode u_Model_copies.2.2.1 88 = .ok (.iload_n 2, 1) := by decide +kernel
theorem d_Model_copies_89 : decode u_Model_copies.2.2.1 89 = .ok (.aload_n 0, 1) := by decide +kernel
theorem d_Model_copies_90 : decode u_Model_copies.2.2.1 90 = .ok (.getfield 121, 3) := by decide +kernel
theorem d_Model_copies_93 : decode u_Model_copies.2.2.1 93 = .ok (.iload_n 1, 1) := by decide +kernel
theorem d_Model_copies_94 : decode u_Model_copies.2.2.1 94 = .ok (.iaload, 1) := by decide +kernel
theorem d_Model_copies_95 : decode u_Model_copies.2.2.1 95 = .ok (.iastore, 1) := by decide +kernel
theorem d_Model_copies_96 : decode u_Model_copies.2.2.1 96 = .ok (.return_, 1) := by decide +kernel
theorem w_Model_copies : am_code y_Model_copies u_Model_copies ∈ am_ws := am_mem (List.mem_of_getElem? (i := 1307) (by decide +kernel)) rfl
def a_Model_copies_0 (rc : Nat → Nat → Int32 → Int32 → Int32 → am_M → Option (Unit × am_M)) (r0 : Nat) (x1 : Int32) (x2 : Int32) (x3 : Int32) (M : am_M) : Option (Unit × am_M) := if (8 : Int32) ≤ x3 then ((q_gtr M r0 10 36).bind (fun t37 => (q_gtr M r0 10 36).bind (fun t42 => (q_ldi M t42 x1).bind (fun t46 => (q_sti M t37 x2 t46).bind (fun M47 => (q_gtr M47 r0 10 37).bind (fun t49 => (q_gtr M47 r0 10 37).bind (fun t54 => (q_ldi M47 t54 x1).bind (fun t58 => (q_sti M47 t49 x2 t58).bind (fun M59 => (q_gtr M59 r0 10 38).bind (fun t61 => (q_gtr M59 r0 10 38).bind (fun t66 => (q_ldi M59 t66 x1).bind (fun t70 => (q_sti M59 t61 x2 t70).bind (fun M71 => (q_gtr M71 r0 10 39).bind (fun t73 => (q_gtr M71 r0 10 39).bind (fun t78 => (q_ldi M71 t78 x1).bind (fun t82 => (q_sti M71 t73 x2 t82).bind (fun M83 => (q_gtr M83 r0 10 40).bind (fun t85 => (q_gtr M83 r0 10 40).bind (fun t90 => (q_ldi M83 t90 x1).bind (fun t94 => (q_sti M83 t85 x2 t94).bind (fun M95 => some ((), M95)))))))))))))))))))))) else ((q_gtr M r0 10 35).bind (fun t9 => (q_gtr M r0 10 35).bind (fun t19 => (q_ldi M t19 (((8 : Int32) * x1) + x3)).bind (fun t28 => (q_sti M t9 (((8 : Int32) * x2) + x3) t28).bind (fun M29 => rc 0 r0 x1 x2 (x3 + (1 : Int32)) M29)))))
def g_Model_copies : Nat → Nat → Nat → Int32 → Int32 → Int32 → am_M → Option (Unit × am_M)
  | 0, _, _, _, _, _, _ => none
  | F + 1, 0, r0, x1, x2, x3, M => a_Model_copies_0 (g_Model_copies F) r0 x1 x2 x3 M
  | _ + 1, _ + 1, _, _, _, _, _ => none
def e_Model_copies (rc : Nat → Nat → Int32 → Int32 → Int32 → am_M → Option (Unit × am_M)) (M : am_M) (a0 : Nat) (a1 : Int32) (a2 : Int32) : Option (Unit × am_M) := rc 0 a0 a1 a2 (0 : Int32) M
def f_Model_copies (M : am_M) (a0 : Nat) (a1 : Int32) (a2 : Int32) : Option (Unit × am_M) := e_Model_copies (g_Model_copies 1000000000) M a0 a1 a2
theorem fl_Model_112 : am_fl "CrewOfficeModel" 112 10 37 := ⟨by decide, by decide, List.mem_of_getElem? (i := 1043) (by decide +kernel)⟩
theorem fl_Model_115 : am_fl "CrewOfficeModel" 115 10 38 := ⟨by decide, by decide, List.mem_of_getElem? (i := 1044) (by decide +kernel)⟩
theorem fl_Model_118 : am_fl "CrewOfficeModel" 118 10 39 := ⟨by decide, by decide, List.mem_of_getElem? (i := 1045) (by decide +kernel)⟩
theorem fl_Model_121 : am_fl "CrewOfficeModel" 121 10 40 := ⟨by decide, by decide, List.mem_of_getElem? (i := 1046) (by decide +kernel)⟩
set_option maxHeartbeats 4000000 in
theorem s_Model_copies_0 {rc : Nat → Nat → Int32 → Int32 → Int32 → am_M → Option (Unit × am_M)} {res : Unit} {M' : am_M} (ih_0 : ∀ (r0 : Nat) (x1 : Int32) (x2 : Int32) (x3 : Int32) (M : am_M), rc 0 r0 x1 x2 x3 M = some (res, M') → AW u_Model_copies R_Model_copies 0 0 2 [(0, .ref r0), (1, .int x1), (2, .int x2), (3, .int x3)] [] M (fun r M2 => r = .inl none ∧ M2 = M')) : ∀ (r0 : Nat) (x1 : Int32) (x2 : Int32) (x3 : Int32) (M : am_M), a_Model_copies_0 rc r0 x1 x2 x3 M = some (res, M') → AW u_Model_copies R_Model_copies 0 0 2 [(0, .ref r0), (1, .int x1), (2, .int x2), (3, .int x3)] [] M (fun r M2 => r = .inl none ∧ M2 = M') := by
  intro r0 x1 x2 x3 M h
  unfold a_Model_copies_0 at h
  refine aw_iload_n d_Model_copies_2 rfl rfl ?_
  refine aw_bipush (v := 8) d_Model_copies_3 (by decide) ?_
  refine aw_icmp_ge (tgt := 36) d_Model_copies_5 (by decide) (fun hc => ?_) (fun hc => ?_)
  · rw [if_pos hc] at h
    refine aw_aload_n d_Model_copies_36 rfl rfl ?_
    obtain ⟨t37, e_t37, h⟩ := q_bind h
    refine aw_gtr d_Model_copies_37 fl_Model_109 (Or.inr ⟨_, rfl⟩) e_t37 ?_
    refine aw_iload_n d_Model_copies_40 rfl rfl ?_
    refine aw_aload_n d_Model_copies_41 rfl rfl ?_
    obtain ⟨t42, e_t42, h⟩ := q_bind h
    refine aw_gtr d_Model_copies_42 fl_Model_109 (Or.inr ⟨_, rfl⟩) e_t42 ?_
    refine aw_iload_n d_Model_copies_45 rfl rfl ?_
    obtain ⟨t46, e_t46, h⟩ := q_bind h
    refine aw_ldi d_Model_copies_46 e_t46 ?_
    obtain ⟨M47, e_M47, h⟩ := q_bind h
    refine aw_sti d_Model_copies_47 e_M47 ?_
    refine aw_aload_n d_Model_copies_48 rfl rfl ?_
    obtain ⟨t49, e_t49, h⟩ := q_bind h
    refine aw_gtr d_Model_copies_49 fl_Model_112 (Or.inr ⟨_, rfl⟩) e_t49 ?_
    refine aw_iload_n d_Model_copies_52 rfl rfl ?_
    refine aw_aload_n d_Model_copies_53 rfl rfl ?_
    obtain ⟨t54, e_t54, h⟩ := q_bind h
    refine aw_gtr d_Model_copies_54 fl_Model_112 (Or.inr ⟨_, rfl⟩) e_t54 ?_
    refine aw_iload_n d_Model_copies_57 rfl rfl ?_
    obtain ⟨t58, e_t58, h⟩ := q_bind h
    refine aw_ldi d_Model_copies_58 e_t58 ?_
    obtain ⟨M59, e_M59, h⟩ := q_bind h
    refine aw_sti d_Model_copies_59 e_M59 ?_
    refine aw_aload_n d_Model_copies_60 rfl rfl ?_
    obtain ⟨t61, e_t61, h⟩ := q_bind h
    refine aw_gtr d_Model_copies_61 fl_Model_115 (Or.inr ⟨_, rfl⟩) e_t61 ?_
    refine aw_iload_n d_Model_copies_64 rfl rfl ?_
    refine aw_aload_n d_Model_copies_65 rfl rfl ?_
    obtain ⟨t66, e_t66, h⟩ := q_bind h
    refine aw_gtr d_Model_copies_66 fl_Model_115 (Or.inr ⟨_, rfl⟩) e_t66 ?_
    refine aw_iload_n d_Model_copies_69 rfl rfl ?_
    obtain ⟨t70, e_t70, h⟩ := q_bind h
    refine aw_ldi d_Model_copies_70 e_t70 ?_
    obtain ⟨M71, e_M71, h⟩ := q_bind h
    refine aw_sti d_Model_copies_71 e_M71 ?_
    refine aw_aload_n d_Model_copies_72 rfl rfl ?_
    obtain ⟨t73, e_t73, h⟩ := q_bind h
    refine aw_gtr d_Model_copies_73 fl_Model_118 (Or.inr ⟨_, rfl⟩) e_t73 ?_
    refine aw_iload_n d_Model_copies_76 rfl rfl ?_
    refine aw_aload_n d_Model_copies_77 rfl rfl ?_
    obtain ⟨t78, e_t78, h⟩ := q_bind h
    refine aw_gtr d_Model_copies_78 fl_Model_118 (Or.inr ⟨_, rfl⟩) e_t78 ?_
    refine aw_iload_n d_Model_copies_81 rfl rfl ?_
    obtain ⟨t82, e_t82, h⟩ := q_bind h
    refine aw_ldi d_Model_copies_82 e_t82 ?_
    obtain ⟨M83, e_M83, h⟩ := q_bind h
    refine aw_sti d_Model_copies_83 e_M83 ?_
    refine aw_aload_n d_Model_copies_84 rfl rfl ?_
    obtain ⟨t85, e_t85, h⟩ := q_bind h
    refine aw_gtr d_Model_copies_85 fl_Model_121 (Or.inr ⟨_, rfl⟩) e_t85 ?_
    refine aw_iload_n d_Model_copies_88 rfl rfl ?_
    refine aw_aload_n d_Model_copies_89 rfl rfl ?_
    obtain ⟨t90, e_t90, h⟩ := q_bind h
    refine aw_gtr d_Model_copies_90 fl_Model_121 (Or.inr ⟨_, rfl⟩) e_t90 ?_
    refine aw_iload_n d_Model_copies_93 rfl rfl ?_
    obtain ⟨t94, e_t94, h⟩ := q_bind h
    refine aw_ldi d_Model_copies_94 e_t94 ?_
    obtain ⟨M95, e_M95, h⟩ := q_bind h
    refine aw_sti d_Model_copies_95 e_M95 ?_
    cases h
    exact aw_vreturn d_Model_copies_96 rfl (Nat.le_of_ble_eq_true rfl) (Nat.le_of_ble_eq_true rfl) ⟨rfl, rfl⟩
  · rw [if_neg hc] at h
    refine aw_aload_n d_Model_copies_8 rfl rfl ?_
    obtain ⟨t9, e_t9, h⟩ := q_bind h
    refine aw_gtr d_Model_copies_9 fl_Model_106 (Or.inr ⟨_, rfl⟩) e_t9 ?_
    refine aw_bipush (v := 8) d_Model_copies_12 (by decide) ?_
    refine aw_iload_n d_Model_copies_14 rfl rfl ?_
    refine aw_imul d_Model_copies_15 ?_
    refine aw_iload_n d_Model_copies_16 rfl rfl ?_
    refine aw_iadd d_Model_copies_17 ?_
    refine aw_aload_n d_Model_copies_18 rfl rfl ?_
    obtain ⟨t19, e_t19, h⟩ := q_bind h
    refine aw_gtr d_Model_copies_19 fl_Model_106 (Or.inr ⟨_, rfl⟩) e_t19 ?_
    refine aw_bipush (v := 8) d_Model_copies_22 (by decide) ?_
    refine aw_iload_n d_Model_copies_24 rfl rfl ?_
    refine aw_imul d_Model_copies_25 ?_
    refine aw_iload_n d_Model_copies_26 rfl rfl ?_
    refine aw_iadd d_Model_copies_27 ?_
    obtain ⟨t28, e_t28, h⟩ := q_bind h
    refine aw_ldi d_Model_copies_28 e_t28 ?_
    obtain ⟨M29, e_M29, h⟩ := q_bind h
    refine aw_sti d_Model_copies_29 e_M29 ?_
    refine aw_iinc (v := (x3 + (1 : Int32))) (ls' := [(3, .int _), (0, .ref _), (1, .int _), (2, .int _)]) d_Model_copies_30 rfl rfl (Nat.le_of_ble_eq_true rfl) rfl ?_
    refine aw_goto (tgt := 2) d_Model_copies_33 (by decide) ?_
    exact aw_pick [1, 2, 3, 0] rfl (ih_0 _ _ _ _ _ h)
theorem l_Model_copies {res : Unit} {M' : am_M} : ∀ F : Nat, (∀ (r0 : Nat) (x1 : Int32) (x2 : Int32) (x3 : Int32) (M : am_M), g_Model_copies F 0 r0 x1 x2 x3 M = some (res, M') → AW u_Model_copies R_Model_copies 0 0 2 [(0, .ref r0), (1, .int x1), (2, .int x2), (3, .int x3)] [] M (fun r M2 => r = .inl none ∧ M2 = M')) := by
  intro F
  induction F with
  | zero => exact fun _ _ _ _ _  h => (by cases h)
  | succ F ih =>
    have ih0 := ih
    exact s_Model_copies_0 ih0
set_option maxHeartbeats 4000000 in
theorem mt_Model_copies {M : am_M} {a0 : Nat} {a1 : Int32} {a2 : Int32} {res : Unit} {M' : am_M} (h : f_Model_copies M a0 a1 a2 = some (res, M')) : AMet y_Model_copies u_Model_copies R_Model_copies [.ref a0, .int a1, .int a2] M (fun r M2 => r = .inl none ∧ M2 = M') := by
  refine am_met (by decide +kernel) w_Model_copies rfl rfl (Nat.le_of_ble_eq_true rfl) ?_
  show AW u_Model_copies R_Model_copies 0 0 0 [(0, .ref a0), (1, .int a1), (2, .int a2)] [] M (fun r M2 => r = .inl none ∧ M2 = M')
  have ih_0 := (l_Model_copies (res := res) (M' := M') 1000000000)
  unfold f_Model_copies at h
  unfold e_Model_copies at h
  generalize g_Model_copies 1000000000 = rc at h ih_0
  refine aw_iconst (v := 0) d_Model_copies_0 (by decide) ?_
  refine aw_istore_n (ls' := [(3, .int _), (0, .ref _), (1, .int _), (2, .int _)]) d_Model_copies_1 rfl (Nat.le_of_ble_eq_true rfl) rfl ?_
  exact aw_pick [1, 2, 3, 0] rfl (ih_0 _ _ _ _ _ h)
def y_Model_pairing : MethodName := ⟨"CrewOfficeModel", "pairing", "(II)I"⟩
def u_Model_pairing : am_U := ("CrewOfficeModel", "pairing", prog_12_method_37_code, 3, (some .int), [])
def R_Model_pairing : Room := { frames := 1, cells := 0, slots := 0, locals := 22 }
theorem d_Model_pairing_0 : decode u_Model_pairing.2.2.1 0 = .ok (.aload_n 0, 1) := by decide +kernel
theorem d_Model_pairing_1 : decode u_Model_pairing.2.2.1 1 = .ok (.iload_n 1, 1) := by decide +kernel
theorem d_Model_pairing_2 : decode u_Model_pairing.2.2.1 2 = .ok (.iconst 0, 1) := by decide +kernel
theorem d_Model_pairing_3 : decode u_Model_pairing.2.2.1 3 = .ok (.aload_n 0, 1) := by decide +kernel
theorem d_Model_pairing_4 : decode u_Model_pairing.2.2.1 4 = .ok (.getfield 102, 3) := by decide +kernel
theorem d_Model_pairing_7 : decode u_Model_pairing.2.2.1 7 = .ok (.iconst 1, 1) := by decide +kernel
theorem d_Model_pairing_8 : decode u_Model_pairing.2.2.1 8 = .ok (.isub, 1) := by decide +kernel
theorem d_Model_pairing_9 : decode u_Model_pairing.2.2.1 9 = .ok (.invokestatic 180, 3) := by decide +kernel
theorem d_Model_pairing_12 : decode u_Model_pairing.2.2.1 12 = .ok (.ifCond .eq 19, 3) := by decide +kernel
theorem d_Model_pairing_15 : decode u_Model_pairing.2.2.1 15 = .ok (.iload_n 2, 1) := by decide +kernel
theorem d_Model_pairing_16 : decode u_Model_pairing.2.2.1 16 = .ok (.iconst 0, 1) := by decide +kernel
theorem d_Model_pairing_17 : decode u_Model_pairing.2.2.1 17 = .ok (.aload_n 0, 1) := by decide +kernel
theorem d_Model_pairing_18 : decode u_Model_pairing.2.2.1 18 = .ok (.getfield 109, 3) := by decide +kernel
theorem d_Model_pairing_21 : decode u_Model_pairing.2.2.1 21 = .ok (.iload_n 1, 1) := by decide +kernel
theorem d_Model_pairing_22 : decode u_Model_pairing.2.2.1 22 = .ok (.iaload, 1) := by decide +kernel
theorem d_Model_pairing_23 : decode u_Model_pairing.2.2.1 23 = .ok (.iconst 1, 1) := by decide +kernel
theorem d_Model_pairing_24 : decode u_Model_pairing.2.2.1 24 = .ok (.isub, 1) := by decide +kernel
theorem d_Model_pairing_25 : decode u_Model_pairing.2.2.1 25 = .ok (.invokestatic 180, 3) := by decide +kernel
theorem d_Model_pairing_28 : decode u_Model_pairing.2.2.1 28 = .ok (.ifCond .ne 7, 3) := by decide +kernel
theorem d_Model_pairing_31 : decode u_Model_pairing.2.2.1 31 = .ok (.iconst 1, 1) := by decide +kernel
theorem d_Model_pairing_32 : decode u_Model_pairing.2.2.1 32 = .ok (.goto 4, 3) := by decide +kernel
theorem d_Model_pairing_35 : decode u_Model_pairing.2.2.1 35 = .ok (.iconst 0, 1) := by decide +kernel
theorem d_Model_pairing_36 : decode u_Model_pairing.2.2.1 36 = .ok (.iconst 1, 1) := by decide +kernel
theorem d_Model_pairing_37 : decode u_Model_pairing.2.2.1 37 = .ok (.invokevirtual 184, 3) := by decide +kernel
theorem d_Model_pairing_40 : decode u_Model_pairing.2.2.1 40 = .ok (.ifCond .eq 7, 3) := by decide +kernel
theorem d_Model_pairing_43 : decode u_Model_pairing.2.2.1 43 = .ok (.iconst 0, 1) := by decide +kernel
theorem d_Model_pairing_44 : decode u_Model_pairing.2.2.1 44 = .ok (.goto 14, 3) := by decide +kernel
theorem d_Model_pairing_47 : decode u_Model_pairing.2.2.1 47 = .ok (.aload_n 0, 1) := by decide +kernel
theorem d_Model_pairing_48 : decode u_Model_pairing.2.2.1 48 = .ok (.getfield 106, 3) := by decide +kernel
theorem d_Model_pairing_51 : decode u_Model_pairing.2.2.1 51 = .ok (.bipush 8, 2) := by decide +kernel
theorem d_Model_pairing_53 : decode u_Model_pairing.2.2.1 53 = .ok (.iload_n 1, 1) := by decide +kernel
theorem d_Model_pairing_54 : decode u_Model_pairing.2.2.1 54 = .ok (.imul, 1) := by decide +kernel
theorem d_Model_pairing_55 : decode u_Model_pairing.2.2.1 55 = .ok (.iload_n 2, 1) := by decide +kernel
theorem d_Model_pairing_56 : decode u_Model_pairing.2.2.1 56 = .ok (.iadd, 1) := by decide +kernel
theorem d_Model_pairing_57 : decode u_Model_pairing.2.2.1 57 = .ok (.iaload, 1) := by decide +kernel
theorem d_Model_pairing_58 : decode u_Model_pairing.2.2.1 58 = .ok (.ireturn, 1) := by decide +kernel
theorem w_Model_pairing : am_code y_Model_pairing u_Model_pairing ∈ am_ws := am_mem (List.mem_of_getElem? (i := 1311) (by decide +kernel)) rfl
def a_Model_pairing_0 (rc : Nat → Nat → Int32 → Int32 → Int32 → Nat → Nat → am_M → Option (Int32 × am_M)) (r0 : Nat) (x1 : Int32) (x2 : Int32) (s0 : Int32) (sr0 : Nat) (sr1 : Nat) (M : am_M) : Option (Int32 × am_M) := rc 1 r0 x1 x2 (1 : Int32) 0 sr0 M
def a_Model_pairing_1 (rc : Nat → Nat → Int32 → Int32 → Int32 → Nat → Nat → am_M → Option (Int32 × am_M)) (r0 : Nat) (x1 : Int32) (x2 : Int32) (s0 : Int32) (sr0 : Nat) (sr1 : Nat) (M : am_M) : Option (Int32 × am_M) := (q_ob M sr1 10).bind (fun o37 => (f_Model_fails M sr1 s0 (1 : Int32)).bind (fun p37 => if p37.1 = 0 then ((q_gtr p37.2 r0 10 35).bind (fun t48 => (q_ldi p37.2 t48 (((8 : Int32) * x1) + x2)).bind (fun t57 => some (t57, p37.2)))) else (some ((0 : Int32), p37.2))))
def g_Model_pairing : Nat → Nat → Nat → Int32 → Int32 → Int32 → Nat → Nat → am_M → Option (Int32 × am_M)
  | 0, _, _, _, _, _, _, _, _ => none
  | F + 1, 0, r0, x1, x2, s0, sr0, sr1, M => a_Model_pairing_0 (g_Model_pairing F) r0 x1 x2 s0 sr0 sr1 M
  | F + 1, 1, r0, x1, x2, s0, sr0, sr1, M => a_Model_pairing_1 (g_Model_pairing F) r0 x1 x2 s0 sr0 sr1 M
  | _ + 1, _ + 2, _, _, _, _, _, _, _ => none
def e_Model_pairing (rc : Nat → Nat → Int32 → Int32 → Int32 → Nat → Nat → am_M → Option (Int32 × am_M)) (M : am_M) (a0 : Nat) (a1 : Int32) (a2 : Int32) : Option (Int32 × am_M) := (q_gti M a0 10 34).bind (fun t4 => (f_Model_within M a1 (0 : Int32) (t4 - (1 : Int32))).bind (fun t9 => if t9 = 0 then (rc 0 a0 a1 a2 0 a0 0 M) else ((q_gtr M a0 10 36).bind (fun t18 => (q_ldi M t18 a1).bind (fun t22 => (f_Model_within M a2 (0 : Int32) (t22 - (1 : Int32))).bind (fun t25 => if t25 = 0 then (rc 0 a0 a1 a2 0 a0 0 M) else (rc 1 a0 a1 a2 (0 : Int32) 0 a0 M)))))))
def f_Model_pairing (M : am_M) (a0 : Nat) (a1 : Int32) (a2 : Int32) : Option (Int32 × am_M) := e_Model_pairing (g_Model_pairing 1000000000) M a0 a1 a2
theorem fl_Model_102 : am_fl "CrewOfficeModel" 102 10 34 := ⟨by decide, by decide, List.mem_of_getElem? (i := 1040) (by decide +kernel)⟩
set_option maxHeartbeats 4000000 in
theorem s_Model_pairing_0 {rc : Nat → Nat → Int32 → Int32 → Int32 → Nat → Nat → am_M → Option (Int32 × am_M)} {res : Int32} {M' : am_M} (ih_0 : ∀ (r0 : Nat) (x1 : Int32) (x2 : Int32) (s0 : Int32) (sr0 : Nat) (sr1 : Nat) (M : am_M), rc 0 r0 x1 x2 s0 sr0 sr1 M = some (res, M') → AW u_Model_pairing R_Model_pairing 0 0 31 [(0, .ref r0), (1, .int x1), (2, .int x2)] [.ref sr0] M (fun r M2 => r = .inl (some (.int res)) ∧ M2 = M')) (ih_1 : ∀ (r0 : Nat) (x1 : Int32) (x2 : Int32) (s0 : Int32) (sr0 : Nat) (sr1 : Nat) (M : am_M), rc 1 r0 x1 x2 s0 sr0 sr1 M = some (res, M') → AW u_Model_pairing R_Model_pairing 0 0 36 [(0, .ref r0), (1, .int x1), (2, .int x2)] [.int s0, .ref sr1] M (fun r M2 => r = .inl (some (.int res)) ∧ M2 = M')) : ∀ (r0 : Nat) (x1 : Int32) (x2 : Int32) (s0 : Int32) (sr0 : Nat) (sr1 : Nat) (M : am_M), a_Model_pairing_0 rc r0 x1 x2 s0 sr0 sr1 M = some (res, M') → AW u_Model_pairing R_Model_pairing 0 0 31 [(0, .ref r0), (1, .int x1), (2, .int x2)] [.ref sr0] M (fun r M2 => r = .inl (some (.int res)) ∧ M2 = M') := by
  intro r0 x1 x2 s0 sr0 sr1 M h
  unfold a_Model_pairing_0 at h
  refine aw_iconst (v := 1) d_Model_pairing_31 (by decide) ?_
  refine aw_goto (tgt := 36) d_Model_pairing_32 (by decide) ?_
  exact aw_pick [0, 1, 2] rfl (ih_1 _ _ _ _ _ _ _ h)
set_option maxHeartbeats 4000000 in
theorem s_Model_pairing_1 {rc : Nat → Nat → Int32 → Int32 → Int32 → Nat → Nat → am_M → Option (Int32 × am_M)} {res : Int32} {M' : am_M} (ih_0 : ∀ (r0 : Nat) (x1 : Int32) (x2 : Int32) (s0 : Int32) (sr0 : Nat) (sr1 : Nat) (M : am_M), rc 0 r0 x1 x2 s0 sr0 sr1 M = some (res, M') → AW u_Model_pairing R_Model_pairing 0 0 31 [(0, .ref r0), (1, .int x1), (2, .int x2)] [.ref sr0] M (fun r M2 => r = .inl (some (.int res)) ∧ M2 = M')) (ih_1 : ∀ (r0 : Nat) (x1 : Int32) (x2 : Int32) (s0 : Int32) (sr0 : Nat) (sr1 : Nat) (M : am_M), rc 1 r0 x1 x2 s0 sr0 sr1 M = some (res, M') → AW u_Model_pairing R_Model_pairing 0 0 36 [(0, .ref r0), (1, .int x1), (2, .int x2)] [.int s0, .ref sr1] M (fun r M2 => r = .inl (some (.int res)) ∧ M2 = M')) : ∀ (r0 : Nat) (x1 : Int32) (x2 : Int32) (s0 : Int32) (sr0 : Nat) (sr1 : Nat) (M : am_M), a_Model_pairing_1 rc r0 x1 x2 s0 sr0 sr1 M = some (res, M') → AW u_Model_pairing R_Model_pairing 0 0 36 [(0, .ref r0), (1, .int x1), (2, .int x2)] [.int s0, .ref sr1] M (fun r M2 => r = .inl (some (.int res)) ∧ M2 = M') := by
  intro r0 x1 x2 s0 sr0 sr1 M h
  unfold a_Model_pairing_1 at h
  refine aw_iconst (v := 1) d_Model_pairing_36 (by decide) ?_
  obtain ⟨o37, e_o37, h⟩ := q_bind h
  obtain ⟨⟨t37, M37⟩, e_t37, h⟩ := q_bind h
  dsimp only at h
  refine aw_cV (v := (some (.int t37))) (As := [.int s0, .int (1 : Int32)]) (rest := []) (st' := [.int t37]) d_Model_pairing_37 kV_Model_184 (q_ob_spec e_o37).1 (q_ob_spec e_o37).2 ⟨Nat.le_of_ble_eq_true rfl, Nat.le_of_ble_eq_true rfl, Nat.le_of_ble_eq_true rfl, Nat.le_of_ble_eq_true rfl⟩ rfl rfl (Nat.le_of_ble_eq_true rfl) rfl (mt_Model_fails e_t37) ?_
  refine aw_if_eq (tgt := 47) d_Model_pairing_40 (by decide) (fun hc => ?_) (fun hc => ?_)
  · rw [if_pos hc] at h
    refine aw_aload_n d_Model_pairing_47 rfl rfl ?_
    obtain ⟨t48, e_t48, h⟩ := q_bind h
    refine aw_gtr d_Model_pairing_48 fl_Model_106 (Or.inr ⟨_, rfl⟩) e_t48 ?_
    refine aw_bipush (v := 8) d_Model_pairing_51 (by decide) ?_
    refine aw_iload_n d_Model_pairing_53 rfl rfl ?_
    refine aw_imul d_Model_pairing_54 ?_
    refine aw_iload_n d_Model_pairing_55 rfl rfl ?_
    refine aw_iadd d_Model_pairing_56 ?_
    obtain ⟨t57, e_t57, h⟩ := q_bind h
    refine aw_ldi d_Model_pairing_57 e_t57 ?_
    cases h
    exact aw_ireturn d_Model_pairing_58 rfl (Nat.le_of_ble_eq_true rfl) (Nat.le_of_ble_eq_true rfl) ⟨rfl, rfl⟩
  · rw [if_neg hc] at h
    refine aw_iconst (v := 0) d_Model_pairing_43 (by decide) ?_
    refine aw_goto (tgt := 58) d_Model_pairing_44 (by decide) ?_
    cases h
    exact aw_ireturn d_Model_pairing_58 rfl (Nat.le_of_ble_eq_true rfl) (Nat.le_of_ble_eq_true rfl) ⟨rfl, rfl⟩
theorem l_Model_pairing {res : Int32} {M' : am_M} : ∀ F : Nat, (∀ (r0 : Nat) (x1 : Int32) (x2 : Int32) (s0 : Int32) (sr0 : Nat) (sr1 : Nat) (M : am_M), g_Model_pairing F 0 r0 x1 x2 s0 sr0 sr1 M = some (res, M') → AW u_Model_pairing R_Model_pairing 0 0 31 [(0, .ref r0), (1, .int x1), (2, .int x2)] [.ref sr0] M (fun r M2 => r = .inl (some (.int res)) ∧ M2 = M')) ∧ (∀ (r0 : Nat) (x1 : Int32) (x2 : Int32) (s0 : Int32) (sr0 : Nat) (sr1 : Nat) (M : am_M), g_Model_pairing F 1 r0 x1 x2 s0 sr0 sr1 M = some (res, M') → AW u_Model_pairing R_Model_pairing 0 0 36 [(0, .ref r0), (1, .int x1), (2, .int x2)] [.int s0, .ref sr1] M (fun r M2 => r = .inl (some (.int res)) ∧ M2 = M')) := by
  intro F
  induction F with
  | zero => exact ⟨fun _ _ _ _ _ _ _  h => (by cases h), fun _ _ _ _ _ _ _  h => (by cases h)⟩
  | succ F ih =>
    obtain ⟨ih0, ih1⟩ := ih
    exact ⟨s_Model_pairing_0 ih0 ih1, s_Model_pairing_1 ih0 ih1⟩
set_option maxHeartbeats 4000000 in
theorem mt_Model_pairing {M : am_M} {a0 : Nat} {a1 : Int32} {a2 : Int32} {res : Int32} {M' : am_M} (h : f_Model_pairing M a0 a1 a2 = some (res, M')) : AMet y_Model_pairing u_Model_pairing R_Model_pairing [.ref a0, .int a1, .int a2] M (fun r M2 => r = .inl (some (.int res)) ∧ M2 = M') := by
  refine am_met (by decide +kernel) w_Model_pairing rfl rfl (Nat.le_of_ble_eq_true rfl) ?_
  show AW u_Model_pairing R_Model_pairing 0 0 0 [(0, .ref a0), (1, .int a1), (2, .int a2)] [] M (fun r M2 => r = .inl (some (.int res)) ∧ M2 = M')
  have ih_0 := (l_Model_pairing (res := res) (M' := M') 1000000000).1
  have ih_1 := (l_Model_pairing (res := res) (M' := M') 1000000000).2
  unfold f_Model_pairing at h
  unfold e_Model_pairing at h
  generalize g_Model_pairing 1000000000 = rc at h ih_0 ih_1
  refine aw_aload_n d_Model_pairing_0 rfl rfl ?_
  refine aw_iload_n d_Model_pairing_1 rfl rfl ?_
  refine aw_iconst (v := 0) d_Model_pairing_2 (by decide) ?_
  refine aw_aload_n d_Model_pairing_3 rfl rfl ?_
  obtain ⟨t4, e_t4, h⟩ := q_bind h
  refine aw_gti d_Model_pairing_4 fl_Model_102 (Or.inl rfl) e_t4 ?_
  refine aw_iconst (v := 1) d_Model_pairing_7 (by decide) ?_
  refine aw_isub d_Model_pairing_8 ?_
  obtain ⟨t9, e_t9, h⟩ := q_bind h
  refine aw_cS (v := (some (.int t9))) (As := [.int a1, .int (0 : Int32), .int (t4 - (1 : Int32))]) (rest := [.ref a0]) (st' := [.int t9, .ref a0]) d_Model_pairing_9 kS_Model_180 ⟨Nat.le_of_ble_eq_true rfl, Nat.le_of_ble_eq_true rfl, Nat.le_of_ble_eq_true rfl, Nat.le_of_ble_eq_true rfl⟩ rfl rfl (Nat.le_of_ble_eq_true rfl) rfl (mt_Model_within e_t9) ?_
  refine aw_if_eq (tgt := 31) d_Model_pairing_12 (by decide) (fun hc => ?_) (fun hc => ?_)
  · rw [if_pos hc] at h
    exact aw_pick [0, 1, 2] rfl (ih_0 _ _ _ _ _ _ _ h)
  · rw [if_neg hc] at h
    refine aw_iload_n d_Model_pairing_15 rfl rfl ?_
    refine aw_iconst (v := 0) d_Model_pairing_16 (by decide) ?_
    refine aw_aload_n d_Model_pairing_17 rfl rfl ?_
    obtain ⟨t18, e_t18, h⟩ := q_bind h
    refine aw_gtr d_Model_pairing_18 fl_Model_109 (Or.inr ⟨_, rfl⟩) e_t18 ?_
    refine aw_iload_n d_Model_pairing_21 rfl rfl ?_
    obtain ⟨t22, e_t22, h⟩ := q_bind h
    refine aw_ldi d_Model_pairing_22 e_t22 ?_
    refine aw_iconst (v := 1) d_Model_pairing_23 (by decide) ?_
    refine aw_isub d_Model_pairing_24 ?_
    obtain ⟨t25, e_t25, h⟩ := q_bind h
    refine aw_cS (v := (some (.int t25))) (As := [.int a2, .int (0 : Int32), .int (t22 - (1 : Int32))]) (rest := [.ref a0]) (st' := [.int t25, .ref a0]) d_Model_pairing_25 kS_Model_180 ⟨Nat.le_of_ble_eq_true rfl, Nat.le_of_ble_eq_true rfl, Nat.le_of_ble_eq_true rfl, Nat.le_of_ble_eq_true rfl⟩ rfl rfl (Nat.le_of_ble_eq_true rfl) rfl (mt_Model_within e_t25) ?_
    refine aw_if_ne (tgt := 35) d_Model_pairing_28 (by decide) (fun hc => ?_) (fun hc => ?_)
    · rw [if_neg hc] at h
      refine aw_iconst (v := 0) d_Model_pairing_35 (by decide) ?_
      exact aw_pick [0, 1, 2] rfl (ih_1 _ _ _ _ _ _ _ h)
    · rw [if_pos hc] at h
      exact aw_pick [0, 1, 2] rfl (ih_0 _ _ _ _ _ _ _ h)
def y_Model_isBetter : MethodName := ⟨"CrewOfficeModel", "isBetter", "(JJ)Z"⟩
def u_Model_isBetter : am_U := ("CrewOfficeModel", "isBetter", prog_12_method_38_code, 6, (some .boolean), [])
def R_Model_isBetter : Room := { frames := 0, cells := 0, slots := 0, locals := 0 }
theorem d_Model_isBetter_0 : decode u_Model_isBetter.2.2.1 0 = .ok (.lload_n 0, 1) := by decide +kernel
theorem d_Model_isBetter_1 : decode u_Model_isBetter.2.2.1 1 = .ok (.lload_n 2, 1) := by decide +kernel
theorem d_Model_isBetter_2 : decode u_Model_isBetter.2.2.1 2 = .ok (.lxor, 1) := by decide +kernel
theorem d_Model_isBetter_3 : decode u_Model_isBetter.2.2.1 3 = .ok (.lstore 4, 2) := by decide +kernel
theorem d_Model_isBetter_5 : decode u_Model_isBetter.2.2.1 5 = .ok (.lload_n 0, 1) := by decide +kernel
theorem d_Model_isBetter_6 : decode u_Model_isBetter.2.2.1 6 = .ok (.lload 4, 2) := by decide +kernel
theorem d_Model_isBetter_8 : decode u_Model_isBetter.2.2.1 8 = .ok (.land, 1) := by decide +kernel
theorem d_Model_isBetter_9 : decode u_Model_isBetter.2.2.1 9 = .ok (.lload 4, 2) := by decide +kernel
theorem d_Model_isBetter_11 : decode u_Model_isBetter.2.2.1 11 = .ok (.lneg, 1) := by decide +kernel
theorem d_Model_isBetter_12 : decode u_Model_isBetter.2.2.1 12 = .ok (.land, 1) := by decide +kernel
theorem d_Model_isBetter_13 : decode u_Model_isBetter.2.2.1 13 = .ok (.lconst 0, 1) := by decide +kernel
theorem d_Model_isBetter_14 : decode u_Model_isBetter.2.2.1 14 = .ok (.lcmp, 1) := by decide +kernel
theorem d_Model_isBetter_15 : decode u_Model_isBetter.2.2.1 15 = .ok (.ifCond .eq 7, 3) := by decide +kernel
theorem d_Model_isBetter_18 : decode u_Model_isBetter.2.2.1 18 = .ok (.iconst 1, 1) := by decide +kernel
theorem d_Model_isBetter_19 : decode u_Model_isBetter.2.2.1 19 = .ok (.goto 4, 3) := by decide +kernel
theorem d_Model_isBetter_22 : decode u_Model_isBetter.2.2.1 22 = .ok (.iconst 0, 1) := by decide +kernel
theorem d_Model_isBetter_23 : decode u_Model_isBetter.2.2.1 23 = .ok (.ireturn, 1) := by decide +kernel
theorem w_Model_isBetter : am_code y_Model_isBetter u_Model_isBetter ∈ am_ws := am_mem (List.mem_of_getElem? (i := 1319) (by decide +kernel)) rfl
def e_Model_isBetter (M : am_M) (a0 : Int64) (a2 : Int64) : Option (Int32) := if (lg_cmp ((a0 &&& (a0 ^^^ a2)) &&& (-(a0 ^^^ a2))) (0 : Int64)) = 0 then (some (0 : Int32)) else (some (1 : Int32))
def f_Model_isBetter (M : am_M) (a0 : Int64) (a2 : Int64) : Option (Int32) := e_Model_isBetter M a0 a2
set_option maxHeartbeats 4000000 in
theorem mt_Model_isBetter {M : am_M} {a0 : Int64} {a2 : Int64} {res : Int32} (h : f_Model_isBetter M a0 a2 = some res) : AMet y_Model_isBetter u_Model_isBetter R_Model_isBetter [.long a0, .long a2] M (fun r M2 => r = .inl (some (.int res)) ∧ M2 = M) := by
  refine am_met (by decide +kernel) w_Model_isBetter rfl rfl (Nat.le_of_ble_eq_true rfl) ?_
  show AW u_Model_isBetter R_Model_isBetter 0 0 0 [(0, .long a0), (2, .long a2)] [] M (fun r M2 => r = .inl (some (.int res)) ∧ M2 = M)
  unfold f_Model_isBetter at h
  unfold e_Model_isBetter at h
  refine aw_lload_n d_Model_isBetter_0 rfl rfl ?_
  refine aw_lload_n d_Model_isBetter_1 rfl rfl ?_
  refine aw_lxor d_Model_isBetter_2 ?_
  refine aw_lstore (ls' := [(4, .long _), (0, .long _), (2, .long _)]) d_Model_isBetter_3 (Nat.le_of_ble_eq_true rfl) rfl ?_
  refine aw_lload_n d_Model_isBetter_5 rfl rfl ?_
  refine aw_lload d_Model_isBetter_6 rfl ?_
  refine aw_land d_Model_isBetter_8 ?_
  refine aw_lload d_Model_isBetter_9 rfl ?_
  refine aw_lneg d_Model_isBetter_11 ?_
  refine aw_land d_Model_isBetter_12 ?_
  refine aw_lconst (v := 0) d_Model_isBetter_13 (by decide) ?_
  refine aw_lcmp d_Model_isBetter_14 ?_
  refine aw_if_eq (tgt := 22) d_Model_isBetter_15 (by decide) (fun hc => ?_) (fun hc => ?_)
  · rw [if_pos hc] at h
    refine aw_iconst (v := 0) d_Model_isBetter_22 (by decide) ?_
    cases h
    exact aw_zreturn d_Model_isBetter_23 rfl (by decide) (Nat.le_of_ble_eq_true rfl) (Nat.le_of_ble_eq_true rfl) ⟨rfl, rfl⟩
  · rw [if_neg hc] at h
    refine aw_iconst (v := 1) d_Model_isBetter_18 (by decide) ?_
    refine aw_goto (tgt := 23) d_Model_isBetter_19 (by decide) ?_
    cases h
    exact aw_zreturn d_Model_isBetter_23 rfl (by decide) (Nat.le_of_ble_eq_true rfl) (Nat.le_of_ble_eq_true rfl) ⟨rfl, rfl⟩
def y_Model_covers : MethodName := ⟨"CrewOfficeModel", "covers", "(I)Z"⟩
def u_Model_covers : am_U := ("CrewOfficeModel", "covers", prog_12_method_40_code, 2, (some .boolean), [])
def R_Model_covers : Room := { frames := 1, cells := 0, slots := 0, locals := 22 }
theorem d_Model_covers_0 : decode u_Model_covers.2.2.1 0 = .ok (.aload_n 0, 1) := by decide +kernel
theorem d_Model_covers_1 : decode u_Model_covers.2.2.1 1 = .ok (.iload_n 1, 1) := by decide +kernel
theorem d_Model_covers_2 : decode u_Model_covers.2.2.1 2 = .ok (.iconst 0, 1) := by decide +kernel
theorem d_Model_covers_3 : decode u_Model_covers.2.2.1 3 = .ok (.aload_n 0, 1) := by decide +kernel
theorem d_Model_covers_4 : decode u_Model_covers.2.2.1 4 = .ok (.getfield 102, 3) := by decide +kernel
theorem d_Model_covers_7 : decode u_Model_covers.2.2.1 7 = .ok (.iconst 1, 1) := by decide +kernel
theorem d_Model_covers_8 : decode u_Model_covers.2.2.1 8 = .ok (.isub, 1) := by decide +kernel
theorem d_Model_covers_9 : decode u_Model_covers.2.2.1 9 = .ok (.invokestatic 180, 3) := by decide +kernel
theorem d_Model_covers_12 : decode u_Model_covers.2.2.1 12 = .ok (.ifCond .ne 7, 3) := by decide +kernel
theorem d_Model_covers_15 : decode u_Model_covers.2.2.1 15 = .ok (.iconst 1, 1) := by decide +kernel
theorem d_Model_covers_16 : decode u_Model_covers.2.2.1 16 = .ok (.goto 4, 3) := by decide +kernel
theorem d_Model_covers_19 : decode u_Model_covers.2.2.1 19 = .ok (.iconst 0, 1) := by decide +kernel
theorem d_Model_covers_20 : decode u_Model_covers.2.2.1 20 = .ok (.iconst 1, 1) := by decide +kernel
theorem d_Model_covers_21 : decode u_Model_covers.2.2.1 21 = .ok (.invokevirtual 184, 3) := by decide +kernel
theorem d_Model_covers_24 : decode u_Model_covers.2.2.1 24 = .ok (.ifCond .ne 16, 3) := by decide +kernel
theorem d_Model_covers_27 : decode u_Model_covers.2.2.1 27 = .ok (.aload_n 0, 1) := by decide +kernel
theorem d_Model_covers_28 : decode u_Model_covers.2.2.1 28 = .ok (.getfield 124, 3) := by decide +kernel
theorem d_Model_covers_31 : decode u_Model_covers.2.2.1 31 = .ok (.iload_n 1, 1) := by decide +kernel
theorem d_Model_covers_32 : decode u_Model_covers.2.2.1 32 = .ok (.baload, 1) := by decide +kernel
theorem d_Model_covers_33 : decode u_Model_covers.2.2.1 33 = .ok (.ifCond .eq 7, 3) := by decide +kernel
theorem d_Model_covers_36 : decode u_Model_covers.2.2.1 36 = .ok (.iconst 1, 1) := by decide +kernel
theorem d_Model_covers_37 : decode u_Model_covers.2.2.1 37 = .ok (.goto 4, 3) := by decide +kernel
theorem d_Model_covers_40 : decode u_Model_covers.2.2.1 40 = .ok (.iconst 0, 1) := by decide +kernel
theorem d_Model_covers_41 : decode u_Model_covers.2.2.1 41 = .ok (.ireturn, 1) := by decide +kernel
theorem w_Model_covers : am_code y_Model_covers u_Model_covers ∈ am_ws := am_mem (List.mem_of_getElem? (i := 1323) (by decide +kernel)) rfl
def a_Model_covers_0 (rc : Nat → Nat → Int32 → Int32 → Nat → am_M → Option (Int32 × am_M)) (r0 : Nat) (x1 : Int32) (s0 : Int32) (sr1 : Nat) (M : am_M) : Option (Int32 × am_M) := (q_ob M sr1 10).bind (fun o21 => (f_Model_fails M sr1 s0 (1 : Int32)).bind (fun p21 => if p21.1 = 0 then ((q_gtr p21.2 r0 10 42).bind (fun t28 => (q_ldz p21.2 t28 x1).bind (fun t32 => if t32 = 0 then (some ((0 : Int32), p21.2)) else (some ((1 : Int32), p21.2))))) else (some ((0 : Int32), p21.2))))
def g_Model_covers : Nat → Nat → Nat → Int32 → Int32 → Nat → am_M → Option (Int32 × am_M)
  | 0, _, _, _, _, _, _ => none
  | F + 1, 0, r0, x1, s0, sr1, M => a_Model_covers_0 (g_Model_covers F) r0 x1 s0 sr1 M
  | _ + 1, _ + 1, _, _, _, _, _ => none
def e_Model_covers (rc : Nat → Nat → Int32 → Int32 → Nat → am_M → Option (Int32 × am_M)) (M : am_M) (a0 : Nat) (a1 : Int32) : Option (Int32 × am_M) := (q_gti M a0 10 34).bind (fun t4 => (f_Model_within M a1 (0 : Int32) (t4 - (1 : Int32))).bind (fun t9 => if t9 = 0 then (rc 0 a0 a1 (1 : Int32) a0 M) else (rc 0 a0 a1 (0 : Int32) a0 M)))
def f_Model_covers (M : am_M) (a0 : Nat) (a1 : Int32) : Option (Int32 × am_M) := e_Model_covers (g_Model_covers 1000000000) M a0 a1
theorem fl_Model_124 : am_fl "CrewOfficeModel" 124 10 42 := ⟨by decide, by decide, List.mem_of_getElem? (i := 1048) (by decide +kernel)⟩
set_option maxHeartbeats 4000000 in
theorem s_Model_covers_0 {rc : Nat → Nat → Int32 → Int32 → Nat → am_M → Option (Int32 × am_M)} {res : Int32} {M' : am_M} (ih_0 : ∀ (r0 : Nat) (x1 : Int32) (s0 : Int32) (sr1 : Nat) (M : am_M), rc 0 r0 x1 s0 sr1 M = some (res, M') → AW u_Model_covers R_Model_covers 0 0 20 [(0, .ref r0), (1, .int x1)] [.int s0, .ref sr1] M (fun r M2 => r = .inl (some (.int res)) ∧ M2 = M')) : ∀ (r0 : Nat) (x1 : Int32) (s0 : Int32) (sr1 : Nat) (M : am_M), a_Model_covers_0 rc r0 x1 s0 sr1 M = some (res, M') → AW u_Model_covers R_Model_covers 0 0 20 [(0, .ref r0), (1, .int x1)] [.int s0, .ref sr1] M (fun r M2 => r = .inl (some (.int res)) ∧ M2 = M') := by
  intro r0 x1 s0 sr1 M h
  unfold a_Model_covers_0 at h
  refine aw_iconst (v := 1) d_Model_covers_20 (by decide) ?_
  obtain ⟨o21, e_o21, h⟩ := q_bind h
  obtain ⟨⟨t21, M21⟩, e_t21, h⟩ := q_bind h
  dsimp only at h
  refine aw_cV (v := (some (.int t21))) (As := [.int s0, .int (1 : Int32)]) (rest := []) (st' := [.int t21]) d_Model_covers_21 kV_Model_184 (q_ob_spec e_o21).1 (q_ob_spec e_o21).2 ⟨Nat.le_of_ble_eq_true rfl, Nat.le_of_ble_eq_true rfl, Nat.le_of_ble_eq_true rfl, Nat.le_of_ble_eq_true rfl⟩ rfl rfl (Nat.le_of_ble_eq_true rfl) rfl (mt_Model_fails e_t21) ?_
  refine aw_if_ne (tgt := 40) d_Model_covers_24 (by decide) (fun hc => ?_) (fun hc => ?_)
  · rw [if_neg hc] at h
    refine aw_iconst (v := 0) d_Model_covers_40 (by decide) ?_
    cases h
    exact aw_zreturn d_Model_covers_41 rfl (by decide) (Nat.le_of_ble_eq_true rfl) (Nat.le_of_ble_eq_true rfl) ⟨rfl, rfl⟩
  · rw [if_pos hc] at h
    refine aw_aload_n d_Model_covers_27 rfl rfl ?_
    obtain ⟨t28, e_t28, h⟩ := q_bind h
    refine aw_gtr d_Model_covers_28 fl_Model_124 (Or.inr ⟨_, rfl⟩) e_t28 ?_
    refine aw_iload_n d_Model_covers_31 rfl rfl ?_
    obtain ⟨t32, e_t32, h⟩ := q_bind h
    refine aw_ldz d_Model_covers_32 e_t32 ?_
    refine aw_if_eq (tgt := 40) d_Model_covers_33 (by decide) (fun hc => ?_) (fun hc => ?_)
    · rw [if_pos hc] at h
      refine aw_iconst (v := 0) d_Model_covers_40 (by decide) ?_
      cases h
      exact aw_zreturn d_Model_covers_41 rfl (by decide) (Nat.le_of_ble_eq_true rfl) (Nat.le_of_ble_eq_true rfl) ⟨rfl, rfl⟩
    · rw [if_neg hc] at h
      refine aw_iconst (v := 1) d_Model_covers_36 (by decide) ?_
      refine aw_goto (tgt := 41) d_Model_covers_37 (by decide) ?_
      cases h
      exact aw_zreturn d_Model_covers_41 rfl (by decide) (Nat.le_of_ble_eq_true rfl) (Nat.le_of_ble_eq_true rfl) ⟨rfl, rfl⟩
theorem l_Model_covers {res : Int32} {M' : am_M} : ∀ F : Nat, (∀ (r0 : Nat) (x1 : Int32) (s0 : Int32) (sr1 : Nat) (M : am_M), g_Model_covers F 0 r0 x1 s0 sr1 M = some (res, M') → AW u_Model_covers R_Model_covers 0 0 20 [(0, .ref r0), (1, .int x1)] [.int s0, .ref sr1] M (fun r M2 => r = .inl (some (.int res)) ∧ M2 = M')) := by
  intro F
  induction F with
  | zero => exact fun _ _ _ _ _  h => (by cases h)
  | succ F ih =>
    have ih0 := ih
    exact s_Model_covers_0 ih0
set_option maxHeartbeats 4000000 in
theorem mt_Model_covers {M : am_M} {a0 : Nat} {a1 : Int32} {res : Int32} {M' : am_M} (h : f_Model_covers M a0 a1 = some (res, M')) : AMet y_Model_covers u_Model_covers R_Model_covers [.ref a0, .int a1] M (fun r M2 => r = .inl (some (.int res)) ∧ M2 = M') := by
  refine am_met (by decide +kernel) w_Model_covers rfl rfl (Nat.le_of_ble_eq_true rfl) ?_
  show AW u_Model_covers R_Model_covers 0 0 0 [(0, .ref a0), (1, .int a1)] [] M (fun r M2 => r = .inl (some (.int res)) ∧ M2 = M')
  have ih_0 := (l_Model_covers (res := res) (M' := M') 1000000000)
  unfold f_Model_covers at h
  unfold e_Model_covers at h
  generalize g_Model_covers 1000000000 = rc at h ih_0
  refine aw_aload_n d_Model_covers_0 rfl rfl ?_
  refine aw_iload_n d_Model_covers_1 rfl rfl ?_
  refine aw_iconst (v := 0) d_Model_covers_2 (by decide) ?_
  refine aw_aload_n d_Model_covers_3 rfl rfl ?_
  obtain ⟨t4, e_t4, h⟩ := q_bind h
  refine aw_gti d_Model_covers_4 fl_Model_102 (Or.inl rfl) e_t4 ?_
  refine aw_iconst (v := 1) d_Model_covers_7 (by decide) ?_
  refine aw_isub d_Model_covers_8 ?_
  obtain ⟨t9, e_t9, h⟩ := q_bind h
  refine aw_cS (v := (some (.int t9))) (As := [.int a1, .int (0 : Int32), .int (t4 - (1 : Int32))]) (rest := [.ref a0]) (st' := [.int t9, .ref a0]) d_Model_covers_9 kS_Model_180 ⟨Nat.le_of_ble_eq_true rfl, Nat.le_of_ble_eq_true rfl, Nat.le_of_ble_eq_true rfl, Nat.le_of_ble_eq_true rfl⟩ rfl rfl (Nat.le_of_ble_eq_true rfl) rfl (mt_Model_within e_t9) ?_
  refine aw_if_ne (tgt := 19) d_Model_covers_12 (by decide) (fun hc => ?_) (fun hc => ?_)
  · rw [if_neg hc] at h
    refine aw_iconst (v := 0) d_Model_covers_19 (by decide) ?_
    exact aw_pick [0, 1] rfl (ih_0 _ _ _ _ _ h)
  · rw [if_pos hc] at h
    refine aw_iconst (v := 1) d_Model_covers_15 (by decide) ?_
    refine aw_goto (tgt := 20) d_Model_covers_16 (by decide) ?_
    exact aw_pick [0, 1] rfl (ih_0 _ _ _ _ _ h)
def y_Model_bid : MethodName := ⟨"CrewOfficeModel", "bid", "(IIII)I"⟩
def u_Model_bid : am_U := ("CrewOfficeModel", "bid", prog_12_method_41_code, 7, (some .int), [])
def R_Model_bid : Room := { frames := 1, cells := 0, slots := 0, locals := 22 }
theorem d_Model_bid_0 : decode u_Model_bid.2.2.1 0 = .ok (.iload_n 1, 1) := by decide +kernel
theorem d_Model_bid_1 : decode u_Model_bid.2.2.1 1 = .ok (.iconst 0, 1) := by decide +kernel
theorem d_Model_bid_2 : decode u_Model_bid.2.2.1 2 = .ok (.iconst 3, 1) := by decide +kernel
theorem d_Model_bid_3 : decode u_Model_bid.2.2.1 3 = .ok (.invokestatic 180, 3) := by decide +kernel
theorem d_Model_bid_6 : decode u_Model_bid.2.2.1 6 = .ok (.ifCond .eq 58, 3) := by decide +kernel
theorem d_Model_bid_9 : decode u_Model_bid.2.2.1 9 = .ok (.iload_n 2, 1) := by decide +kernel
theorem d_Model_bid_10 : decode u_Model_bid.2.2.1 10 = .ok (.iconst 0, 1) := by decide +kernel
theorem d_Model_bid_11 : decode u_Model_bid.2.2.1 11 = .ok (.iconst 2, 1) := by decide +kernel
theorem d_Model_bid_12 : decode u_Model_bid.2.2.1 12 = .ok (.invokestatic 180, 3) := by decide +kernel
theorem d_Model_bid_15 : decode u_Model_bid.2.2.1 15 = .ok (.ifCond .eq 49, 3) := by decide +kernel
theorem d_Model_bid_18 : decode u_Model_bid.2.2.1 18 = .ok (.iload_n 3, 1) := by decide +kernel
theorem d_Model_bid_19 : decode u_Model_bid.2.2.1 19 = .ok (.iconst 0, 1) := by decide +kernel
theorem d_Model_bid_20 : decode u_Model_bid.2.2.1 20 = .ok (.iload_n 2, 1) := by decide +kernel
theorem d_Model_bid_21 : decode u_Model_bid.2.2.1 21 = .ok (.ifCond .ne 8, 3) := by decide +kernel
theorem d_Model_bid_24 : decode u_Model_bid.2.2.1 24 = .ok (.bipush 11, 2) := by decide +kernel
theorem d_Model_bid_26 : decode u_Model_bid.2.2.1 26 = .ok (.goto 14, 3) := by decide +kernel
theorem d_Model_bid_29 : decode u_Model_bid.2.2.1 29 = .ok (.iload_n 2, 1) := by decide +kernel
theorem d_Model_bid_30 : decode u_Model_bid.2.2.1 30 = .ok (.iconst 1, 1) := by decide +kernel
theorem d_Model_bid_31 : decode u_Model_bid.2.2.1 31 = .ok (.if_icmp .ne 7, 3) := by decide +kernel
theorem d_Model_bid_34 : decode u_Model_bid.2.2.1 34 = .ok (.iconst 4, 1) := by decide +kernel
theorem d_Model_bid_35 : decode u_Model_bid.2.2.1 35 = .ok (.goto 5, 3) := by decide +kernel
theorem d_Model_bid_38 : decode u_Model_bid.2.2.1 38 = .ok (.bipush 13, 2) := by decide +kernel
theorem d_Model_bid_40 : decode u_Model_bid.2.2.1 40 = .ok (.invokestatic 180, 3) := by decide +kernel
theorem d_Model_bid_43 : decode u_Model_bid.2.2.1 43 = .ok (.ifCond .eq 21, 3) := by decide +kernel
theorem d_Model_bid_46 : decode u_Model_bid.2.2.1 46 = .ok (.iload 4, 2) := by decide +kernel
theorem d_Model_bid_48 : decode u_Model_bid.2.2.1 48 = .ok (.sipush (-1000), 3) := by decide +kernel
theorem d_Model_bid_51 : decode u_Model_bid.2.2.1 51 = .ok (.sipush 1000, 3) := by decide +kernel
theorem d_Model_bid_54 : decode u_Model_bid.2.2.1 54 = .ok (.invokestatic 180, 3) := by decide +kernel
theorem d_Model_bid_57 : decode u_Model_bid.2.2.1 57 = .ok (.ifCond .eq 7, 3) := by decide +kernel
theorem d_Model_bid_60 : decode u_Model_bid.2.2.1 60 = .ok (.iconst 1, 1) := by decide +kernel
theorem d_Model_bid_61 : decode u_Model_bid.2.2.1 61 = .ok (.goto 4, 3) := by decide +kernel
theorem d_Model_bid_64 : decode u_Model_bid.2.2.1 64 = .ok (.iconst 0, 1) := by decide +kernel
theorem d_Model_bid_65 : decode u_Model_bid.2.2.1 65 = .ok (.istore 5, 2) := by decide +kernel
theorem d_Model_bid_67 : decode u_Model_bid.2.2.1 67 = .ok (.aload_n 0, 1) := by decide +kernel
theorem d_Model_bid_68 : decode u_Model_bid.2.2.1 68 = .ok (.iload 5, 2) := by decide +kernel
theorem d_Model_bid_70 : decode u_Model_bid.2.2.1 70 = .ok (.ifCond .ne 7, 3) := by decide +kernel
theorem d_Model_bid_73 : decode u_Model_bid.2.2.1 73 = .ok (.iconst 1, 1) := by decide +kernel
theorem d_Model_bid_74 : decode u_Model_bid.2.2.1 74 = .ok (.goto 4, 3) := by decide +kernel
theorem d_Model_bid_77 : decode u_Model_bid.2.2.1 77 = .ok (.iconst 0, 1) := by decide +kernel
theorem d_Model_bid_78 : decode u_Model_bid.2.2.1 78 = .ok (.iconst 1, 1) := by decide +kernel
theorem d_Model_bid_79 : decode u_Model_bid.2.2.1 79 = .ok (.invokevirtual 184, 3) := by decide +kernel
theorem d_Model_bid_82 : decode u_Model_bid.2.2.1 82 = .ok (.ifCond .ne 49, 3) := by decide +kernel
theorem d_Model_bid_85 : decode u_Model_bid.2.2.1 85 = .ok (.aload_n 0, 1) := by decide +kernel
theorem d_Model_bid_86 : decode u_Model_bid.2.2.1 86 = .ok (.aload_n 0, 1) := by decide +kernel
theorem d_Model_bid_87 : decode u_Model_bid.2.2.1 87 = .ok (.getfield 45, 3) := by decide +kernel
theorem d_Model_bid_90 : decode u_Model_bid.2.2.1 90 = .ok (.iload_n 1, 1) := by decide +kernel
theorem d_Model_bid_91 : decode u_Model_bid.2.2.1 91 = .ok (.baload, 1) := by decide +kernel
theorem d_Model_bid_92 : decode u_Model_bid.2.2.1 92 = .ok (.ifCond .ne 7, 3) := by decide +kernel
theorem d_Model_bid_95 : decode u_Model_bid.2.2.1 95 = .ok (.iconst 1, 1) := by decide +kernel
theorem d_Model_bid_96 : decode u_Model_bid.2.2.1 96 = .ok (.goto 4, 3) := by decide +kernel
theorem d_Model_bid_99 : decode u_Model_bid.2.2.1 99 = .ok (.iconst 0, 1) := by decide +kernel
theorem d_Model_bid_100 : decode u_Model_bid.2.2.1 100 = .ok (.iconst 2, 1) := by decide +kernel
theorem d_Model_bid_101 : decode u_Model_bid.2.2.1 101 = .ok (.invokevirtual 184, 3) := by decide +kernel
theorem d_Model_bid_104 : decode u_Model_bid.2.2.1 104 = .ok (.ifCond .ne 27, 3) := by decide +kernel
theorem d_Model_bid_107 : decode u_Model_bid.2.2.1 107 = .ok (.aload_n 0, 1) := by decide +kernel
theorem d_Model_bid_108 : decode u_Model_bid.2.2.1 108 = .ok (.aload_n 0, 1) := by decide +kernel
theorem d_Model_bid_109 : decode u_Model_bid.2.2.1 109 = .ok (.getfield 66, 3) := by decide +kernel
theorem d_Model_bid_112 : decode u_Model_bid.2.2.1 112 = .ok (.iload_n 1, 1) := by decide +kernel
theorem d_Model_bid_113 : decode u_Model_bid.2.2.1 113 = .ok (.iaload, 1) := by decide +kernel
theorem d_Model_bid_114 : decode u_Model_bid.2.2.1 114 = .ok (.bipush 6, 2) := by decide +kernel
theorem d_Model_bid_116 : decode u_Model_bid.2.2.1 116 = .ok (.if_icmp .ne 7, 3) := by decide +kernel
theorem d_Model_bid_119 : decode u_Model_bid.2.2.1 119 = .ok (.iconst 1, 1) := by decide +kernel
theorem d_Model_bid_120 : decode u_Model_bid.2.2.1 120 = .ok (.goto 4, 3) := by decide +kernel
theorem d_Model_bid_123 : decode u_Model_bid.2.2.1 123 = .ok (.iconst 0, 1) := by decide +kernel
theorem d_Model_bid_124 : decode u_Model_bid.2.2.1 124 = .ok (.iconst 3, 1) := by decide +kernel
theorem d_Model_bid_125 : decode u_Model_bid.2.2.1 125 = .ok (.invokevirtual 184, 3) := by decide +kernel
theorem d_Model_bid_128 : decode u_Model_bid.2.2.1 128 = .ok (.ifCond .eq 5, 3) := by decide +kernel
theorem d_Model_bid_131 : decode u_Model_bid.2.2.1 131 = .ok (.iconst 0, 1) := by decide +kernel
theorem d_Model_bid_132 : decode u_Model_bid.2.2.1 132 = .ok (.ireturn, 1) := by decide +kernel
theorem d_Model_bid_133 : decode u_Model_bid.2.2.1 133 = .ok (.bipush 6, 2) := by decide +kernel
theorem d_Model_bid_135 : decode u_Model_bid.2.2.1 135 = .ok (.iload_n 1, 1) := by decide +kernel
theorem d_Model_bid_136 : decode u_Model_bid.2.2.1 136 = .ok (.imul, 1) := by decide +kernel
theorem d_Model_bid_137 : decode u_Model_bid.2.2.1 137 = .ok (.aload_n 0, 1) := by decide +kernel
theorem d_Model_bid_138 : decode u_Model_bid.2.2.1 138 = .ok (.getfield 66, 3) := by decide +kernel
theorem d_Model_bid_141 : decode u_Model_bid.2.2.1 141 = .ok (.iload_n 1, 1) := by decide +kernel
theorem d_Model_bid_142 : decode u_Model_bid.2.2.1 142 = .ok (.iaload, 1) := by decide +kernel
theorem d_Model_bid_143 : decode u_Model_bid.2.2.1 143 = .ok (.iadd, 1) := by decide +kernel
theorem d_Model_bid_144 : decode u_Model_bid.2.2.1 144 = .ok (.istore 6, 2) := by decide +kernel
theorem d_Model_bid_146 : decode u_Model_bid.2.2.1 146 = .ok (.aload_n 0, 1) := by decide +kernel
theorem d_Model_bid_147 : decode u_Model_bid.2.2.1 147 = .ok (.getfield 69, 3) := by decide +kernel
theorem d_Model_bid_150 : decode u_Model_bid.2.2.1 150 = .ok (.iload 6, 2) := by decide +kernel
theorem d_Model_bid_152 : decode u_Model_bid.2.2.1 152 = .ok (.iload_n 2, 1) := by decide +kernel
theorem d_Model_bid_153 : decode u_Model_bid.2.2.1 153 = .ok (.iastore, 1) := by decide +kernel
theorem d_Model_bid_154 : decode u_Model_bid.2.2.1 154 = .ok (.aload_n 0, 1) := by decide +kernel
theorem d_Model_bid_155 : decode u_Model_bid.2.2.1 155 = .ok (.getfield 72, 3) := by decide +kernel
theorem d_Model_bid_158 : decode u_Model_bid.2.2.1 158 = .ok (.iload 6, 2) := by decide +kernel
theorem d_Model_bid_160 : decode u_Model_bid.2.2.1 160 = .ok (.iload_n 3, 1) := by decide +kernel
theorem d_Model_bid_161 : decode u_Model_bid.2.2.1 161 = .ok (.iastore, 1) := by decide +kernel
theorem d_Model_bid_162 : decode u_Model_bid.2.2.1 162 = .ok (.aload_n 0, 1) := by decide +kernel
theorem d_Model_bid_163 : decode u_Model_bid.2.2.1 163 = .ok (.getfield 75, 3) := by decide +kernel
theorem d_Model_bid_166 : decode u_Model_bid.2.2.1 166 = .ok (.iload 6, 2) := by decide +kernel
theorem d_Model_bid_168 : decode u_Model_bid.2.2.1 168 = .ok (.iload 4, 2) := by decide +kernel
theorem d_Model_bid_170 : decode u_Model_bid.2.2.1 170 = .ok (.iastore, 1) := by decide +kernel
theorem d_Model_bid_171 : decode u_Model_bid.2.2.1 171 = .ok (.aload_n 0, 1) := by decide +kernel
theorem d_Model_bid_172 : decode u_Model_bid.2.2.1 172 = .ok (.getfield 66, 3) := by decide +kernel
theorem d_Model_bid_175 : decode u_Model_bid.2.2.1 175 = .ok (.iload_n 1, 1) := by decide +kernel
theorem d_Model_bid_176 : decode u_Model_bid.2.2.1 176 = .ok (.dup2, 1) := by decide +kernel
theorem d_Model_bid_177 : decode u_Model_bid.2.2.1 177 = .ok (.iaload, 1) := by decide +kernel
theorem d_Model_bid_178 : decode u_Model_bid.2.2.1 178 = .ok (.iconst 1, 1) := by decide +kernel
theorem d_Model_bid_179 : decode u_Model_bid.2.2.1 179 = .ok (.iadd, 1) := by decide +kernel
theorem d_Model_bid_180 : decode u_Model_bid.2.2.1 180 = .ok (.iastore, 1) := by decide +kernel
theorem d_Model_bid_181 : decode u_Model_bid.2.2.1 181 = .ok (.aload_n 0, 1) := by decide +kernel
theorem d_Model_bid_182 : decode u_Model_bid.2.2.1 182 = .ok (.invokevirtual 165, 3) := by decide +kernel
theorem d_Model_bid_185 : decode u_Model_bid.2.2.1 185 = .ok (.aload_n 0, 1) := by decide +kernel
theorem d_Model_bid_186 : decode u_Model_bid.2.2.1 186 = .ok (.getfield 66, 3) := by decide +kernel
theorem d_Model_bid_189 : decode u_Model_bid.2.2.1 189 = .ok (.iload_n 1, 1) := by decide +kernel
theorem d_Model_bid_190 : decode u_Model_bid.2.2.1 190 = .ok (.iaload, 1) := by decide +kernel
theorem d_Model_bid_191 : decode u_Model_bid.2.2.1 191 = .ok (.ireturn, 1) := by decide +kernel
theorem w_Model_bid : am_code y_Model_bid u_Model_bid ∈ am_ws := am_mem (List.mem_of_getElem? (i := 1327) (by decide +kernel)) rfl
def a_Model_bid_0 (rc : Nat → Nat → Int32 → Int32 → Int32 → Int32 → Int32 → Int32 → Nat → Int32 → am_M → Option (Int32 × am_M)) (r0 : Nat) (x1 : Int32) (x2 : Int32) (x3 : Int32) (x4 : Int32) (s0 : Int32) (s1 : Int32) (sr1 : Nat) (s2 : Int32) (M : am_M) : Option (Int32 × am_M) := (f_Model_within M s2 s1 s0).bind (fun t40 => if t40 = 0 then (rc 1 r0 x1 x2 x3 x4 0 0 0 0 M) else ((f_Model_within M x4 (-1000 : Int32) (1000 : Int32)).bind (fun t54 => if t54 = 0 then (rc 1 r0 x1 x2 x3 x4 0 0 0 0 M) else (rc 2 r0 x1 x2 x3 x4 (1 : Int32) 0 0 0 M))))
def a_Model_bid_1 (rc : Nat → Nat → Int32 → Int32 → Int32 → Int32 → Int32 → Int32 → Nat → Int32 → am_M → Option (Int32 × am_M)) (r0 : Nat) (x1 : Int32) (x2 : Int32) (x3 : Int32) (x4 : Int32) (s0 : Int32) (s1 : Int32) (sr1 : Nat) (s2 : Int32) (M : am_M) : Option (Int32 × am_M) := rc 2 r0 x1 x2 x3 x4 (0 : Int32) 0 0 0 M
def a_Model_bid_2 (rc : Nat → Nat → Int32 → Int32 → Int32 → Int32 → Int32 → Int32 → Nat → Int32 → am_M → Option (Int32 × am_M)) (r0 : Nat) (x1 : Int32) (x2 : Int32) (x3 : Int32) (x4 : Int32) (s0 : Int32) (s1 : Int32) (sr1 : Nat) (s2 : Int32) (M : am_M) : Option (Int32 × am_M) := if s0 = 0 then (rc 3 r0 x1 x2 x3 x4 (1 : Int32) 0 r0 0 M) else (rc 3 r0 x1 x2 x3 x4 (0 : Int32) 0 r0 0 M)
def a_Model_bid_3 (rc : Nat → Nat → Int32 → Int32 → Int32 → Int32 → Int32 → Int32 → Nat → Int32 → am_M → Option (Int32 × am_M)) (r0 : Nat) (x1 : Int32) (x2 : Int32) (x3 : Int32) (x4 : Int32) (s0 : Int32) (s1 : Int32) (sr1 : Nat) (s2 : Int32) (M : am_M) : Option (Int32 × am_M) := (q_ob M sr1 10).bind (fun o79 => (f_Model_fails M sr1 s0 (1 : Int32)).bind (fun p79 => if p79.1 = 0 then ((q_gtr p79.2 r0 10 12).bind (fun t87 => (q_ldz p79.2 t87 x1).bind (fun t91 => if t91 = 0 then (rc 4 r0 x1 x2 x3 x4 (1 : Int32) 0 r0 0 p79.2) else (rc 4 r0 x1 x2 x3 x4 (0 : Int32) 0 r0 0 p79.2)))) else (some ((0 : Int32), p79.2))))
def a_Model_bid_4 (rc : Nat → Nat → Int32 → Int32 → Int32 → Int32 → Int32 → Int32 → Nat → Int32 → am_M → Option (Int32 × am_M)) (r0 : Nat) (x1 : Int32) (x2 : Int32) (x3 : Int32) (x4 : Int32) (s0 : Int32) (s1 : Int32) (sr1 : Nat) (s2 : Int32) (M : am_M) : Option (Int32 × am_M) := (q_ob M sr1 10).bind (fun o101 => (f_Model_fails M sr1 s0 (2 : Int32)).bind (fun p101 => if p101.1 = 0 then ((q_gtr p101.2 r0 10 19).bind (fun t109 => (q_ldi p101.2 t109 x1).bind (fun t113 => if t113 = (6 : Int32) then (rc 5 r0 x1 x2 x3 x4 (1 : Int32) 0 r0 0 p101.2) else (rc 5 r0 x1 x2 x3 x4 (0 : Int32) 0 r0 0 p101.2)))) else (some ((0 : Int32), p101.2))))
def a_Model_bid_5 (rc : Nat → Nat → Int32 → Int32 → Int32 → Int32 → Int32 → Int32 → Nat → Int32 → am_M → Option (Int32 × am_M)) (r0 : Nat) (x1 : Int32) (x2 : Int32) (x3 : Int32) (x4 : Int32) (s0 : Int32) (s1 : Int32) (sr1 : Nat) (s2 : Int32) (M : am_M) : Option (Int32 × am_M) := (q_ob M sr1 10).bind (fun o125 => (f_Model_fails M sr1 s0 (3 : Int32)).bind (fun p125 => if p125.1 = 0 then ((q_gtr p125.2 r0 10 19).bind (fun t138 => (q_ldi p125.2 t138 x1).bind (fun t142 => (q_gtr p125.2 r0 10 20).bind (fun t147 => (q_sti p125.2 t147 (((6 : Int32) * x1) + t142) x2).bind (fun M153 => (q_gtr M153 r0 10 21).bind (fun t155 => (q_sti M153 t155 (((6 : Int32) * x1) + t142) x3).bind (fun M161 => (q_gtr M161 r0 10 22).bind (fun t163 => (q_sti M161 t163 (((6 : Int32) * x1) + t142) x4).bind (fun M170 => (q_gtr M170 r0 10 19).bind (fun t172 => (q_ldi M170 t172 x1).bind (fun t177 => (q_sti M170 t172 x1 (t177 + (1 : Int32))).bind (fun M180 => (q_ob M180 r0 10).bind (fun o182 => (f_Model_unawards M180 r0).bind (fun p182 => (q_gtr p182.2 r0 10 19).bind (fun t186 => (q_ldi p182.2 t186 x1).bind (fun t190 => some (t190, p182.2))))))))))))))))) else (some ((0 : Int32), p125.2))))
def g_Model_bid : Nat → Nat → Nat → Int32 → Int32 → Int32 → Int32 → Int32 → Int32 → Nat → Int32 → am_M → Option (Int32 × am_M)
  | 0, _, _, _, _, _, _, _, _, _, _, _ => none
  | F + 1, 0, r0, x1, x2, x3, x4, s0, s1, sr1, s2, M => a_Model_bid_0 (g_Model_bid F) r0 x1 x2 x3 x4 s0 s1 sr1 s2 M
  | F + 1, 1, r0, x1, x2, x3, x4, s0, s1, sr1, s2, M => a_Model_bid_1 (g_Model_bid F) r0 x1 x2 x3 x4 s0 s1 sr1 s2 M
  | F + 1, 2, r0, x1, x2, x3, x4, s0, s1, sr1, s2, M => a_Model_bid_2 (g_Model_bid F) r0 x1 x2 x3 x4 s0 s1 sr1 s2 M
  | F + 1, 3, r0, x1, x2, x3, x4, s0, s1, sr1, s2, M => a_Model_bid_3 (g_Model_bid F) r0 x1 x2 x3 x4 s0 s1 sr1 s2 M
  | F + 1, 4, r0, x1, x2, x3, x4, s0, s1, sr1, s2, M => a_Model_bid_4 (g_Model_bid F) r0 x1 x2 x3 x4 s0 s1 sr1 s2 M
  | F + 1, 5, r0, x1, x2, x3, x4, s0, s1, sr1, s2, M => a_Model_bid_5 (g_Model_bid F) r0 x1 x2 x3 x4 s0 s1 sr1 s2 M
  | _ + 1, _ + 6, _, _, _, _, _, _, _, _, _, _ => none
def e_Model_bid (rc : Nat → Nat → Int32 → Int32 → Int32 → Int32 → Int32 → Int32 → Nat → Int32 → am_M → Option (Int32 × am_M)) (M : am_M) (a0 : Nat) (a1 : Int32) (a2 : Int32) (a3 : Int32) (a4 : Int32) : Option (Int32 × am_M) := (f_Model_within M a1 (0 : Int32) (3 : Int32)).bind (fun t3 => if t3 = 0 then (rc 1 a0 a1 a2 a3 a4 0 0 0 0 M) else ((f_Model_within M a2 (0 : Int32) (2 : Int32)).bind (fun t12 => if t12 = 0 then (rc 1 a0 a1 a2 a3 a4 0 0 0 0 M) else (if a2 = 0 then (rc 0 a0 a1 a2 a3 a4 (11 : Int32) (0 : Int32) 0 a3 M) else (if a2 = (1 : Int32) then (rc 0 a0 a1 a2 a3 a4 (4 : Int32) (0 : Int32) 0 a3 M) else (rc 0 a0 a1 a2 a3 a4 (13 : Int32) (0 : Int32) 0 a3 M))))))
def f_Model_bid (M : am_M) (a0 : Nat) (a1 : Int32) (a2 : Int32) (a3 : Int32) (a4 : Int32) : Option (Int32 × am_M) := e_Model_bid (g_Model_bid 1000000000) M a0 a1 a2 a3 a4
theorem fl_Model_45 : am_fl "CrewOfficeModel" 45 10 12 := ⟨by decide, by decide, List.mem_of_getElem? (i := 1018) (by decide +kernel)⟩
theorem fl_Model_66 : am_fl "CrewOfficeModel" 66 10 19 := ⟨by decide, by decide, List.mem_of_getElem? (i := 1025) (by decide +kernel)⟩
theorem fl_Model_69 : am_fl "CrewOfficeModel" 69 10 20 := ⟨by decide, by decide, List.mem_of_getElem? (i := 1026) (by decide +kernel)⟩
theorem fl_Model_72 : am_fl "CrewOfficeModel" 72 10 21 := ⟨by decide, by decide, List.mem_of_getElem? (i := 1027) (by decide +kernel)⟩
theorem fl_Model_75 : am_fl "CrewOfficeModel" 75 10 22 := ⟨by decide, by decide, List.mem_of_getElem? (i := 1028) (by decide +kernel)⟩
theorem kV_Model_165 : am_kV "CrewOfficeModel" 165 10 y_Model_unawards u_Model_unawards 0 := ⟨List.mem_of_getElem? (i := 1193) (by decide +kernel), ⟨List.mem_of_getElem? (i := 1195) (by decide +kernel), List.mem_of_getElem? (i := 31) (by decide +kernel)⟩, List.mem_of_getElem? (i := 65) (by decide +kernel), w_Model_unawards, ⟨⟨by decide +kernel, by decide +kernel⟩, by decide +kernel⟩⟩
set_option maxHeartbeats 4000000 in
theorem s_Model_bid_0 {rc : Nat → Nat → Int32 → Int32 → Int32 → Int32 → Int32 → Int32 → Nat → Int32 → am_M → Option (Int32 × am_M)} {res : Int32} {M' : am_M} (ih_0 : ∀ (r0 : Nat) (x1 : Int32) (x2 : Int32) (x3 : Int32) (x4 : Int32) (s0 : Int32) (s1 : Int32) (sr1 : Nat) (s2 : Int32) (M : am_M), rc 0 r0 x1 x2 x3 x4 s0 s1 sr1 s2 M = some (res, M') → AW u_Model_bid R_Model_bid 0 0 40 [(0, .ref r0), (1, .int x1), (2, .int x2), (3, .int x3), (4, .int x4)] [.int s0, .int s1, .int s2] M (fun r M2 => r = .inl (some (.int res)) ∧ M2 = M')) (ih_1 : ∀ (r0 : Nat) (x1 : Int32) (x2 : Int32) (x3 : Int32) (x4 : Int32) (s0 : Int32) (s1 : Int32) (sr1 : Nat) (s2 : Int32) (M : am_M), rc 1 r0 x1 x2 x3 x4 s0 s1 sr1 s2 M = some (res, M') → AW u_Model_bid R_Model_bid 0 0 64 [(0, .ref r0), (1, .int x1), (2, .int x2), (3, .int x3), (4, .int x4)] [] M (fun r M2 => r = .inl (some (.int res)) ∧ M2 = M')) (ih_2 : ∀ (r0 : Nat) (x1 : Int32) (x2 : Int32) (x3 : Int32) (x4 : Int32) (s0 : Int32) (s1 : Int32) (sr1 : Nat) (s2 : Int32) (M : am_M), rc 2 r0 x1 x2 x3 x4 s0 s1 sr1 s2 M = some (res, M') → AW u_Model_bid R_Model_bid 0 0 65 [(0, .ref r0), (1, .int x1), (2, .int x2), (3, .int x3), (4, .int x4)] [.int s0] M (fun r M2 => r = .inl (some (.int res)) ∧ M2 = M')) (ih_3 : ∀ (r0 : Nat) (x1 : Int32) (x2 : Int32) (x3 : Int32) (x4 : Int32) (s0 : Int32) (s1 : Int32) (sr1 : Nat) (s2 : Int32) (M : am_M), rc 3 r0 x1 x2 x3 x4 s0 s1 sr1 s2 M = some (res, M') → AW u_Model_bid R_Model_bid 0 0 78 [(0, .ref r0), (1, .int x1), (2, .int x2), (3, .int x3), (4, .int x4)] [.int s0, .ref sr1] M (fun r M2 => r = .inl (some (.int res)) ∧ M2 = M')) (ih_4 : ∀ (r0 : Nat) (x1 : Int32) (x2 : Int32) (x3 : Int32) (x4 : Int32) (s0 : Int32) (s1 : Int32) (sr1 : Nat) (s2 : Int32) (M : am_M), rc 4 r0 x1 x2 x3 x4 s0 s1 sr1 s2 M = some (res, M') → AW u_Model_bid R_Model_bid 0 0 100 [(0, .ref r0), (1, .int x1), (2, .int x2), (3, .int x3), (4, .int x4)] [.int s0, .ref sr1] M (fun r M2 => r = .inl (some (.int res)) ∧ M2 = M')) (ih_5 : ∀ (r0 : Nat) (x1 : Int32) (x2 : Int32) (x3 : Int32) (x4 : Int32) (s0 : Int32) (s1 : Int32) (sr1 : Nat) (s2 : Int32) (M : am_M), rc 5 r0 x1 x2 x3 x4 s0 s1 sr1 s2 M = some (res, M') → AW u_Model_bid R_Model_bid 0 0 124 [(0, .ref r0), (1, .int x1), (2, .int x2), (3, .int x3), (4, .int x4)] [.int s0, .ref sr1] M (fun r M2 => r = .inl (some (.int res)) ∧ M2 = M')) : ∀ (r0 : Nat) (x1 : Int32) (x2 : Int32) (x3 : Int32) (x4 : Int32) (s0 : Int32) (s1 : Int32) (sr1 : Nat) (s2 : Int32) (M : am_M), a_Model_bid_0 rc r0 x1 x2 x3 x4 s0 s1 sr1 s2 M = some (res, M') → AW u_Model_bid R_Model_bid 0 0 40 [(0, .ref r0), (1, .int x1), (2, .int x2), (3, .int x3), (4, .int x4)] [.int s0, .int s1, .int s2] M (fun r M2 => r = .inl (some (.int res)) ∧ M2 = M') := by
  intro r0 x1 x2 x3 x4 s0 s1 sr1 s2 M h
  unfold a_Model_bid_0 at h
  obtain ⟨t40, e_t40, h⟩ := q_bind h
  refine aw_cS (v := (some (.int t40))) (As := [.int s2, .int s1, .int s0]) (rest := []) (st' := [.int t40]) d_Model_bid_40 kS_Model_180 ⟨Nat.le_of_ble_eq_true rfl, Nat.le_of_ble_eq_true rfl, Nat.le_of_ble_eq_true rfl, Nat.le_of_ble_eq_true rfl⟩ rfl rfl (Nat.le_of_ble_eq_true rfl) rfl (mt_Model_within e_t40) ?_
  refine aw_if_eq (tgt := 64) d_Model_bid_43 (by decide) (fun hc => ?_) (fun hc => ?_)
  · rw [if_pos hc] at h
    exact aw_pick [0, 1, 2, 3, 4] rfl (ih_1 _ _ _ _ _ _ _ _ _ _ h)
  · rw [if_neg hc] at h
    refine aw_iload d_Model_bid_46 rfl ?_
    refine aw_sipush (v := -1000) d_Model_bid_48 (by decide) ?_
    refine aw_sipush (v := 1000) d_Model_bid_51 (by decide) ?_
    obtain ⟨t54, e_t54, h⟩ := q_bind h
    refine aw_cS (v := (some (.int t54))) (As := [.int x4, .int (-1000 : Int32), .int (1000 : Int32)]) (rest := []) (st' := [.int t54]) d_Model_bid_54 kS_Model_180 ⟨Nat.le_of_ble_eq_true rfl, Nat.le_of_ble_eq_true rfl, Nat.le_of_ble_eq_true rfl, Nat.le_of_ble_eq_true rfl⟩ rfl rfl (Nat.le_of_ble_eq_true rfl) rfl (mt_Model_within e_t54) ?_
    refine aw_if_eq (tgt := 64) d_Model_bid_57 (by decide) (fun hc => ?_) (fun hc => ?_)
    · rw [if_pos hc] at h
      exact aw_pick [0, 1, 2, 3, 4] rfl (ih_1 _ _ _ _ _ _ _ _ _ _ h)
    · rw [if_neg hc] at h
      refine aw_iconst (v := 1) d_Model_bid_60 (by decide) ?_
      refine aw_goto (tgt := 65) d_Model_bid_61 (by decide) ?_
      exact aw_pick [0, 1, 2, 3, 4] rfl (ih_2 _ _ _ _ _ _ _ _ _ _ h)
set_option maxHeartbeats 4000000 in
theorem s_Model_bid_1 {rc : Nat → Nat → Int32 → Int32 → Int32 → Int32 → Int32 → Int32 → Nat → Int32 → am_M → Option (Int32 × am_M)} {res : Int32} {M' : am_M} (ih_0 : ∀ (r0 : Nat) (x1 : Int32) (x2 : Int32) (x3 : Int32) (x4 : Int32) (s0 : Int32) (s1 : Int32) (sr1 : Nat) (s2 : Int32) (M : am_M), rc 0 r0 x1 x2 x3 x4 s0 s1 sr1 s2 M = some (res, M') → AW u_Model_bid R_Model_bid 0 0 40 [(0, .ref r0), (1, .int x1), (2, .int x2), (3, .int x3), (4, .int x4)] [.int s0, .int s1, .int s2] M (fun r M2 => r = .inl (some (.int res)) ∧ M2 = M')) (ih_1 : ∀ (r0 : Nat) (x1 : Int32) (x2 : Int32) (x3 : Int32) (x4 : Int32) (s0 : Int32) (s1 : Int32) (sr1 : Nat) (s2 : Int32) (M : am_M), rc 1 r0 x1 x2 x3 x4 s0 s1 sr1 s2 M = some (res, M') → AW u_Model_bid R_Model_bid 0 0 64 [(0, .ref r0), (1, .int x1), (2, .int x2), (3, .int x3), (4, .int x4)] [] M (fun r M2 => r = .inl (some (.int res)) ∧ M2 = M')) (ih_2 : ∀ (r0 : Nat) (x1 : Int32) (x2 : Int32) (x3 : Int32) (x4 : Int32) (s0 : Int32) (s1 : Int32) (sr1 : Nat) (s2 : Int32) (M : am_M), rc 2 r0 x1 x2 x3 x4 s0 s1 sr1 s2 M = some (res, M') → AW u_Model_bid R_Model_bid 0 0 65 [(0, .ref r0), (1, .int x1), (2, .int x2), (3, .int x3), (4, .int x4)] [.int s0] M (fun r M2 => r = .inl (some (.int res)) ∧ M2 = M')) (ih_3 : ∀ (r0 : Nat) (x1 : Int32) (x2 : Int32) (x3 : Int32) (x4 : Int32) (s0 : Int32) (s1 : Int32) (sr1 : Nat) (s2 : Int32) (M : am_M), rc 3 r0 x1 x2 x3 x4 s0 s1 sr1 s2 M = some (res, M') → AW u_Model_bid R_Model_bid 0 0 78 [(0, .ref r0), (1, .int x1), (2, .int x2), (3, .int x3), (4, .int x4)] [.int s0, .ref sr1] M (fun r M2 => r = .inl (some (.int res)) ∧ M2 = M')) (ih_4 : ∀ (r0 : Nat) (x1 : Int32) (x2 : Int32) (x3 : Int32) (x4 : Int32) (s0 : Int32) (s1 : Int32) (sr1 : Nat) (s2 : Int32) (M : am_M), rc 4 r0 x1 x2 x3 x4 s0 s1 sr1 s2 M = some (res, M') → AW u_Model_bid R_Model_bid 0 0 100 [(0, .ref r0), (1, .int x1), (2, .int x2), (3, .int x3), (4, .int x4)] [.int s0, .ref sr1] M (fun r M2 => r = .inl (some (.int res)) ∧ M2 = M')) (ih_5 : ∀ (r0 : Nat) (x1 : Int32) (x2 : Int32) (x3 : Int32) (x4 : Int32) (s0 : Int32) (s1 : Int32) (sr1 : Nat) (s2 : Int32) (M : am_M), rc 5 r0 x1 x2 x3 x4 s0 s1 sr1 s2 M = some (res, M') → AW u_Model_bid R_Model_bid 0 0 124 [(0, .ref r0), (1, .int x1), (2, .int x2), (3, .int x3), (4, .int x4)] [.int s0, .ref sr1] M (fun r M2 => r = .inl (some (.int res)) ∧ M2 = M')) : ∀ (r0 : Nat) (x1 : Int32) (x2 : Int32) (x3 : Int32) (x4 : Int32) (s0 : Int32) (s1 : Int32) (sr1 : Nat) (s2 : Int32) (M : am_M), a_Model_bid_1 rc r0 x1 x2 x3 x4 s0 s1 sr1 s2 M = some (res, M') → AW u_Model_bid R_Model_bid 0 0 64 [(0, .ref r0), (1, .int x1), (2, .int x2), (3, .int x3), (4, .int x4)] [] M (fun r M2 => r = .inl (some (.int res)) ∧ M2 = M') := by
  intro r0 x1 x2 x3 x4 s0 s1 sr1 s2 M h
  unfold a_Model_bid_1 at h
  refine aw_iconst (v := 0) d_Model_bid_64 (by decide) ?_
  exact aw_pick [0, 1, 2, 3, 4] rfl (ih_2 _ _ _ _ _ _ _ _ _ _ h)
set_option maxHeartbeats 4000000 in
theorem s_Model_bid_2 {rc : Nat → Nat → Int32 → Int32 → Int32 → Int32 → Int32 → Int32 → Nat → Int32 → am_M → Option (Int32 × am_M)} {res : Int32} {M' : am_M} (ih_0 : ∀ (r0 : Nat) (x1 : Int32) (x2 : Int32) (x3 : Int32) (x4 : Int32) (s0 : Int32) (s1 : Int32) (sr1 : Nat) (s2 : Int32) (M : am_M), rc 0 r0 x1 x2 x3 x4 s0 s1 sr1 s2 M = some (res, M') → AW u_Model_bid R_Model_bid 0 0 40 [(0, .ref r0), (1, .int x1), (2, .int x2), (3, .int x3), (4, .int x4)] [.int s0, .int s1, .int s2] M (fun r M2 => r = .inl (some (.int res)) ∧ M2 = M')) (ih_1 : ∀ (r0 : Nat) (x1 : Int32) (x2 : Int32) (x3 : Int32) (x4 : Int32) (s0 : Int32) (s1 : Int32) (sr1 : Nat) (s2 : Int32) (M : am_M), rc 1 r0 x1 x2 x3 x4 s0 s1 sr1 s2 M = some (res, M') → AW u_Model_bid R_Model_bid 0 0 64 [(0, .ref r0), (1, .int x1), (2, .int x2), (3, .int x3), (4, .int x4)] [] M (fun r M2 => r = .inl (some (.int res)) ∧ M2 = M')) (ih_2 : ∀ (r0 : Nat) (x1 : Int32) (x2 : Int32) (x3 : Int32) (x4 : Int32) (s0 : Int32) (s1 : Int32) (sr1 : Nat) (s2 : Int32) (M : am_M), rc 2 r0 x1 x2 x3 x4 s0 s1 sr1 s2 M = some (res, M') → AW u_Model_bid R_Model_bid 0 0 65 [(0, .ref r0), (1, .int x1), (2, .int x2), (3, .int x3), (4, .int x4)] [.int s0] M (fun r M2 => r = .inl (some (.int res)) ∧ M2 = M')) (ih_3 : ∀ (r0 : Nat) (x1 : Int32) (x2 : Int32) (x3 : Int32) (x4 : Int32) (s0 : Int32) (s1 : Int32) (sr1 : Nat) (s2 : Int32) (M : am_M), rc 3 r0 x1 x2 x3 x4 s0 s1 sr1 s2 M = some (res, M') → AW u_Model_bid R_Model_bid 0 0 78 [(0, .ref r0), (1, .int x1), (2, .int x2), (3, .int x3), (4, .int x4)] [.int s0, .ref sr1] M (fun r M2 => r = .inl (some (.int res)) ∧ M2 = M')) (ih_4 : ∀ (r0 : Nat) (x1 : Int32) (x2 : Int32) (x3 : Int32) (x4 : Int32) (s0 : Int32) (s1 : Int32) (sr1 : Nat) (s2 : Int32) (M : am_M), rc 4 r0 x1 x2 x3 x4 s0 s1 sr1 s2 M = some (res, M') → AW u_Model_bid R_Model_bid 0 0 100 [(0, .ref r0), (1, .int x1), (2, .int x2), (3, .int x3), (4, .int x4)] [.int s0, .ref sr1] M (fun r M2 => r = .inl (some (.int res)) ∧ M2 = M')) (ih_5 : ∀ (r0 : Nat) (x1 : Int32) (x2 : Int32) (x3 : Int32) (x4 : Int32) (s0 : Int32) (s1 : Int32) (sr1 : Nat) (s2 : Int32) (M : am_M), rc 5 r0 x1 x2 x3 x4 s0 s1 sr1 s2 M = some (res, M') → AW u_Model_bid R_Model_bid 0 0 124 [(0, .ref r0), (1, .int x1), (2, .int x2), (3, .int x3), (4, .int x4)] [.int s0, .ref sr1] M (fun r M2 => r = .inl (some (.int res)) ∧ M2 = M')) : ∀ (r0 : Nat) (x1 : Int32) (x2 : Int32) (x3 : Int32) (x4 : Int32) (s0 : Int32) (s1 : Int32) (sr1 : Nat) (s2 : Int32) (M : am_M), a_Model_bid_2 rc r0 x1 x2 x3 x4 s0 s1 sr1 s2 M = some (res, M') → AW u_Model_bid R_Model_bid 0 0 65 [(0, .ref r0), (1, .int x1), (2, .int x2), (3, .int x3), (4, .int x4)] [.int s0] M (fun r M2 => r = .inl (some (.int res)) ∧ M2 = M') := by
  intro r0 x1 x2 x3 x4 s0 s1 sr1 s2 M h
  unfold a_Model_bid_2 at h
  refine aw_istore (ls' := [(5, .int _), (0, .ref _), (1, .int _), (2, .int _), (3, .int _), (4, .int _)]) d_Model_bid_65 (Nat.le_of_ble_eq_true rfl) rfl ?_
  refine aw_aload_n d_Model_bid_67 rfl rfl ?_
  refine aw_iload d_Model_bid_68 rfl ?_
  refine aw_if_ne (tgt := 77) d_Model_bid_70 (by decide) (fun hc => ?_) (fun hc => ?_)
  · rw [if_neg hc] at h
    refine aw_iconst (v := 0) d_Model_bid_77 (by decide) ?_
    exact aw_pick [1, 2, 3, 4, 5] rfl (ih_3 _ _ _ _ _ _ _ _ _ _ h)
  · rw [if_pos hc] at h
    refine aw_iconst (v := 1) d_Model_bid_73 (by decide) ?_
    refine aw_goto (tgt := 78) d_Model_bid_74 (by decide) ?_
    exact aw_pick [1, 2, 3, 4, 5] rfl (ih_3 _ _ _ _ _ _ _ _ _ _ h)
set_option maxHeartbeats 4000000 in
theorem s_Model_bid_3 {rc : Nat → Nat → Int32 → Int32 → Int32 → Int32 → Int32 → Int32 → Nat → Int32 → am_M → Option (Int32 × am_M)} {res : Int32} {M' : am_M} (ih_0 : ∀ (r0 : Nat) (x1 : Int32) (x2 : Int32) (x3 : Int32) (x4 : Int32) (s0 : Int32) (s1 : Int32) (sr1 : Nat) (s2 : Int32) (M : am_M), rc 0 r0 x1 x2 x3 x4 s0 s1 sr1 s2 M = some (res, M') → AW u_Model_bid R_Model_bid 0 0 40 [(0, .ref r0), (1, .int x1), (2, .int x2), (3, .int x3), (4, .int x4)] [.int s0, .int s1, .int s2] M (fun r M2 => r = .inl (some (.int res)) ∧ M2 = M')) (ih_1 : ∀ (r0 : Nat) (x1 : Int32) (x2 : Int32) (x3 : Int32) (x4 : Int32) (s0 : Int32) (s1 : Int32) (sr1 : Nat) (s2 : Int32) (M : am_M), rc 1 r0 x1 x2 x3 x4 s0 s1 sr1 s2 M = some (res, M') → AW u_Model_bid R_Model_bid 0 0 64 [(0, .ref r0), (1, .int x1), (2, .int x2), (3, .int x3), (4, .int x4)] [] M (fun r M2 => r = .inl (some (.int res)) ∧ M2 = M')) (ih_2 : ∀ (r0 : Nat) (x1 : Int32) (x2 : Int32) (x3 : Int32) (x4 : Int32) (s0 : Int32) (s1 : Int32) (sr1 : Nat) (s2 : Int32) (M : am_M), rc 2 r0 x1 x2 x3 x4 s0 s1 sr1 s2 M = some (res, M') → AW u_Model_bid R_Model_bid 0 0 65 [(0, .ref r0), (1, .int x1), (2, .int x2), (3, .int x3), (4, .int x4)] [.int s0] M (fun r M2 => r = .inl (some (.int res)) ∧ M2 = M')) (ih_3 : ∀ (r0 : Nat) (x1 : Int32) (x2 : Int32) (x3 : Int32) (x4 : Int32) (s0 : Int32) (s1 : Int32) (sr1 : Nat) (s2 : Int32) (M : am_M), rc 3 r0 x1 x2 x3 x4 s0 s1 sr1 s2 M = some (res, M') → AW u_Model_bid R_Model_bid 0 0 78 [(0, .ref r0), (1, .int x1), (2, .int x2), (3, .int x3), (4, .int x4)] [.int s0, .ref sr1] M (fun r M2 => r = .inl (some (.int res)) ∧ M2 = M')) (ih_4 : ∀ (r0 : Nat) (x1 : Int32) (x2 : Int32) (x3 : Int32) (x4 : Int32) (s0 : Int32) (s1 : Int32) (sr1 : Nat) (s2 : Int32) (M : am_M), rc 4 r0 x1 x2 x3 x4 s0 s1 sr1 s2 M = some (res, M') → AW u_Model_bid R_Model_bid 0 0 100 [(0, .ref r0), (1, .int x1), (2, .int x2), (3, .int x3), (4, .int x4)] [.int s0, .ref sr1] M (fun r M2 => r = .inl (some (.int res)) ∧ M2 = M')) (ih_5 : ∀ (r0 : Nat) (x1 : Int32) (x2 : Int32) (x3 : Int32) (x4 : Int32) (s0 : Int32) (s1 : Int32) (sr1 : Nat) (s2 : Int32) (M : am_M), rc 5 r0 x1 x2 x3 x4 s0 s1 sr1 s2 M = some (res, M') → AW u_Model_bid R_Model_bid 0 0 124 [(0, .ref r0), (1, .int x1), (2, .int x2), (3, .int x3), (4, .int x4)] [.int s0, .ref sr1] M (fun r M2 => r = .inl (some (.int res)) ∧ M2 = M')) : ∀ (r0 : Nat) (x1 : Int32) (x2 : Int32) (x3 : Int32) (x4 : Int32) (s0 : Int32) (s1 : Int32) (sr1 : Nat) (s2 : Int32) (M : am_M), a_Model_bid_3 rc r0 x1 x2 x3 x4 s0 s1 sr1 s2 M = some (res, M') → AW u_Model_bid R_Model_bid 0 0 78 [(0, .ref r0), (1, .int x1), (2, .int x2), (3, .int x3), (4, .int x4)] [.int s0, .ref sr1] M (fun r M2 => r = .inl (some (.int res)) ∧ M2 = M') := by
  intro r0 x1 x2 x3 x4 s0 s1 sr1 s2 M h
  unfold a_Model_bid_3 at h
  refine aw_iconst (v := 1) d_Model_bid_78 (by decide) ?_
  obtain ⟨o79, e_o79, h⟩ := q_bind h
  obtain ⟨⟨t79, M79⟩, e_t79, h⟩ := q_bind h
  dsimp only at h
  refine aw_cV (v := (some (.int t79))) (As := [.int s0, .int (1 : Int32)]) (rest := []) (st' := [.int t79]) d_Model_bid_79 kV_Model_184 (q_ob_spec e_o79).1 (q_ob_spec e_o79).2 ⟨Nat.le_of_ble_eq_true rfl, Nat.le_of_ble_eq_true rfl, Nat.le_of_ble_eq_true rfl, Nat.le_of_ble_eq_true rfl⟩ rfl rfl (Nat.le_of_ble_eq_true rfl) rfl (mt_Model_fails e_t79) ?_
  refine aw_if_ne (tgt := 131) d_Model_bid_82 (by decide) (fun hc => ?_) (fun hc => ?_)
  · rw [if_neg hc] at h
    refine aw_iconst (v := 0) d_Model_bid_131 (by decide) ?_
    cases h
    exact aw_ireturn d_Model_bid_132 rfl (Nat.le_of_ble_eq_true rfl) (Nat.le_of_ble_eq_true rfl) ⟨rfl, rfl⟩
  · rw [if_pos hc] at h
    refine aw_aload_n d_Model_bid_85 rfl rfl ?_
    refine aw_aload_n d_Model_bid_86 rfl rfl ?_
    obtain ⟨t87, e_t87, h⟩ := q_bind h
    refine aw_gtr d_Model_bid_87 fl_Model_45 (Or.inr ⟨_, rfl⟩) e_t87 ?_
    refine aw_iload_n d_Model_bid_90 rfl rfl ?_
    obtain ⟨t91, e_t91, h⟩ := q_bind h
    refine aw_ldz d_Model_bid_91 e_t91 ?_
    refine aw_if_ne (tgt := 99) d_Model_bid_92 (by decide) (fun hc => ?_) (fun hc => ?_)
    · rw [if_neg hc] at h
      refine aw_iconst (v := 0) d_Model_bid_99 (by decide) ?_
      exact aw_pick [0, 1, 2, 3, 4] rfl (ih_4 _ _ _ _ _ _ _ _ _ _ h)
    · rw [if_pos hc] at h
      refine aw_iconst (v := 1) d_Model_bid_95 (by decide) ?_
      refine aw_goto (tgt := 100) d_Model_bid_96 (by decide) ?_
      exact aw_pick [0, 1, 2, 3, 4] rfl (ih_4 _ _ _ _ _ _ _ _ _ _ h)
set_option maxHeartbeats 4000000 in
theorem s_Model_bid_4 {rc : Nat → Nat → Int32 → Int32 → Int32 → Int32 → Int32 → Int32 → Nat → Int32 → am_M → Option (Int32 × am_M)} {res : Int32} {M' : am_M} (ih_0 : ∀ (r0 : Nat) (x1 : Int32) (x2 : Int32) (x3 : Int32) (x4 : Int32) (s0 : Int32) (s1 : Int32) (sr1 : Nat) (s2 : Int32) (M : am_M), rc 0 r0 x1 x2 x3 x4 s0 s1 sr1 s2 M = some (res, M') → AW u_Model_bid R_Model_bid 0 0 40 [(0, .ref r0), (1, .int x1), (2, .int x2), (3, .int x3), (4, .int x4)] [.int s0, .int s1, .int s2] M (fun r M2 => r = .inl (some (.int res)) ∧ M2 = M')) (ih_1 : ∀ (r0 : Nat) (x1 : Int32) (x2 : Int32) (x3 : Int32) (x4 : Int32) (s0 : Int32) (s1 : Int32) (sr1 : Nat) (s2 : Int32) (M : am_M), rc 1 r0 x1 x2 x3 x4 s0 s1 sr1 s2 M = some (res, M') → AW u_Model_bid R_Model_bid 0 0 64 [(0, .ref r0), (1, .int x1), (2, .int x2), (3, .int x3), (4, .int x4)] [] M (fun r M2 => r = .inl (some (.int res)) ∧ M2 = M')) (ih_2 : ∀ (r0 : Nat) (x1 : Int32) (x2 : Int32) (x3 : Int32) (x4 : Int32) (s0 : Int32) (s1 : Int32) (sr1 : Nat) (s2 : Int32) (M : am_M), rc 2 r0 x1 x2 x3 x4 s0 s1 sr1 s2 M = some (res, M') → AW u_Model_bid R_Model_bid 0 0 65 [(0, .ref r0), (1, .int x1), (2, .int x2), (3, .int x3), (4, .int x4)] [.int s0] M (fun r M2 => r = .inl (some (.int res)) ∧ M2 = M')) (ih_3 : ∀ (r0 : Nat) (x1 : Int32) (x2 : Int32) (x3 : Int32) (x4 : Int32) (s0 : Int32) (s1 : Int32) (sr1 : Nat) (s2 : Int32) (M : am_M), rc 3 r0 x1 x2 x3 x4 s0 s1 sr1 s2 M = some (res, M') → AW u_Model_bid R_Model_bid 0 0 78 [(0, .ref r0), (1, .int x1), (2, .int x2), (3, .int x3), (4, .int x4)] [.int s0, .ref sr1] M (fun r M2 => r = .inl (some (.int res)) ∧ M2 = M')) (ih_4 : ∀ (r0 : Nat) (x1 : Int32) (x2 : Int32) (x3 : Int32) (x4 : Int32) (s0 : Int32) (s1 : Int32) (sr1 : Nat) (s2 : Int32) (M : am_M), rc 4 r0 x1 x2 x3 x4 s0 s1 sr1 s2 M = some (res, M') → AW u_Model_bid R_Model_bid 0 0 100 [(0, .ref r0), (1, .int x1), (2, .int x2), (3, .int x3), (4, .int x4)] [.int s0, .ref sr1] M (fun r M2 => r = .inl (some (.int res)) ∧ M2 = M')) (ih_5 : ∀ (r0 : Nat) (x1 : Int32) (x2 : Int32) (x3 : Int32) (x4 : Int32) (s0 : Int32) (s1 : Int32) (sr1 : Nat) (s2 : Int32) (M : am_M), rc 5 r0 x1 x2 x3 x4 s0 s1 sr1 s2 M = some (res, M') → AW u_Model_bid R_Model_bid 0 0 124 [(0, .ref r0), (1, .int x1), (2, .int x2), (3, .int x3), (4, .int x4)] [.int s0, .ref sr1] M (fun r M2 => r = .inl (some (.int res)) ∧ M2 = M')) : ∀ (r0 : Nat) (x1 : Int32) (x2 : Int32) (x3 : Int32) (x4 : Int32) (s0 : Int32) (s1 : Int32) (sr1 : Nat) (s2 : Int32) (M : am_M), a_Model_bid_4 rc r0 x1 x2 x3 x4 s0 s1 sr1 s2 M = some (res, M') → AW u_Model_bid R_Model_bid 0 0 100 [(0, .ref r0), (1, .int x1), (2, .int x2), (3, .int x3), (4, .int x4)] [.int s0, .ref sr1] M (fun r M2 => r = .inl (some (.int res)) ∧ M2 = M') := by
  intro r0 x1 x2 x3 x4 s0 s1 sr1 s2 M h
  unfold a_Model_bid_4 at h
  refine aw_iconst (v := 2) d_Model_bid_100 (by decide) ?_
  obtain ⟨o101, e_o101, h⟩ := q_bind h
  obtain ⟨⟨t101, M101⟩, e_t101, h⟩ := q_bind h
  dsimp only at h
  refine aw_cV (v := (some (.int t101))) (As := [.int s0, .int (2 : Int32)]) (rest := []) (st' := [.int t101]) d_Model_bid_101 kV_Model_184 (q_ob_spec e_o101).1 (q_ob_spec e_o101).2 ⟨Nat.le_of_ble_eq_true rfl, Nat.le_of_ble_eq_true rfl, Nat.le_of_ble_eq_true rfl, Nat.le_of_ble_eq_true rfl⟩ rfl rfl (Nat.le_of_ble_eq_true rfl) rfl (mt_Model_fails e_t101) ?_
  refine aw_if_ne (tgt := 131) d_Model_bid_104 (by decide) (fun hc => ?_) (fun hc => ?_)
  · rw [if_neg hc] at h
    refine aw_iconst (v := 0) d_Model_bid_131 (by decide) ?_
    cases h
    exact aw_ireturn d_Model_bid_132 rfl (Nat.le_of_ble_eq_true rfl) (Nat.le_of_ble_eq_true rfl) ⟨rfl, rfl⟩
  · rw [if_pos hc] at h
    refine aw_aload_n d_Model_bid_107 rfl rfl ?_
    refine aw_aload_n d_Model_bid_108 rfl rfl ?_
    obtain ⟨t109, e_t109, h⟩ := q_bind h
    refine aw_gtr d_Model_bid_109 fl_Model_66 (Or.inr ⟨_, rfl⟩) e_t109 ?_
    refine aw_iload_n d_Model_bid_112 rfl rfl ?_
    obtain ⟨t113, e_t113, h⟩ := q_bind h
    refine aw_ldi d_Model_bid_113 e_t113 ?_
    refine aw_bipush (v := 6) d_Model_bid_114 (by decide) ?_
    refine aw_icmp_ne (tgt := 123) d_Model_bid_116 (by decide) (fun hc => ?_) (fun hc => ?_)
    · rw [if_neg hc] at h
      refine aw_iconst (v := 0) d_Model_bid_123 (by decide) ?_
      exact aw_pick [0, 1, 2, 3, 4] rfl (ih_5 _ _ _ _ _ _ _ _ _ _ h)
    · rw [if_pos hc] at h
      refine aw_iconst (v := 1) d_Model_bid_119 (by decide) ?_
      refine aw_goto (tgt := 124) d_Model_bid_120 (by decide) ?_
      exact aw_pick [0, 1, 2, 3, 4] rfl (ih_5 _ _ _ _ _ _ _ _ _ _ h)
set_option maxHeartbeats 4000000 in
theorem s_Model_bid_5 {rc : Nat → Nat → Int32 → Int32 → Int32 → Int32 → Int32 → Int32 → Nat → Int32 → am_M → Option (Int32 × am_M)} {res : Int32} {M' : am_M} (ih_0 : ∀ (r0 : Nat) (x1 : Int32) (x2 : Int32) (x3 : Int32) (x4 : Int32) (s0 : Int32) (s1 : Int32) (sr1 : Nat) (s2 : Int32) (M : am_M), rc 0 r0 x1 x2 x3 x4 s0 s1 sr1 s2 M = some (res, M') → AW u_Model_bid R_Model_bid 0 0 40 [(0, .ref r0), (1, .int x1), (2, .int x2), (3, .int x3), (4, .int x4)] [.int s0, .int s1, .int s2] M (fun r M2 => r = .inl (some (.int res)) ∧ M2 = M')) (ih_1 : ∀ (r0 : Nat) (x1 : Int32) (x2 : Int32) (x3 : Int32) (x4 : Int32) (s0 : Int32) (s1 : Int32) (sr1 : Nat) (s2 : Int32) (M : am_M), rc 1 r0 x1 x2 x3 x4 s0 s1 sr1 s2 M = some (res, M') → AW u_Model_bid R_Model_bid 0 0 64 [(0, .ref r0), (1, .int x1), (2, .int x2), (3, .int x3), (4, .int x4)] [] M (fun r M2 => r = .inl (some (.int res)) ∧ M2 = M')) (ih_2 : ∀ (r0 : Nat) (x1 : Int32) (x2 : Int32) (x3 : Int32) (x4 : Int32) (s0 : Int32) (s1 : Int32) (sr1 : Nat) (s2 : Int32) (M : am_M), rc 2 r0 x1 x2 x3 x4 s0 s1 sr1 s2 M = some (res, M') → AW u_Model_bid R_Model_bid 0 0 65 [(0, .ref r0), (1, .int x1), (2, .int x2), (3, .int x3), (4, .int x4)] [.int s0] M (fun r M2 => r = .inl (some (.int res)) ∧ M2 = M')) (ih_3 : ∀ (r0 : Nat) (x1 : Int32) (x2 : Int32) (x3 : Int32) (x4 : Int32) (s0 : Int32) (s1 : Int32) (sr1 : Nat) (s2 : Int32) (M : am_M), rc 3 r0 x1 x2 x3 x4 s0 s1 sr1 s2 M = some (res, M') → AW u_Model_bid R_Model_bid 0 0 78 [(0, .ref r0), (1, .int x1), (2, .int x2), (3, .int x3), (4, .int x4)] [.int s0, .ref sr1] M (fun r M2 => r = .inl (some (.int res)) ∧ M2 = M')) (ih_4 : ∀ (r0 : Nat) (x1 : Int32) (x2 : Int32) (x3 : Int32) (x4 : Int32) (s0 : Int32) (s1 : Int32) (sr1 : Nat) (s2 : Int32) (M : am_M), rc 4 r0 x1 x2 x3 x4 s0 s1 sr1 s2 M = some (res, M') → AW u_Model_bid R_Model_bid 0 0 100 [(0, .ref r0), (1, .int x1), (2, .int x2), (3, .int x3), (4, .int x4)] [.int s0, .ref sr1] M (fun r M2 => r = .inl (some (.int res)) ∧ M2 = M')) (ih_5 : ∀ (r0 : Nat) (x1 : Int32) (x2 : Int32) (x3 : Int32) (x4 : Int32) (s0 : Int32) (s1 : Int32) (sr1 : Nat) (s2 : Int32) (M : am_M), rc 5 r0 x1 x2 x3 x4 s0 s1 sr1 s2 M = some (res, M') → AW u_Model_bid R_Model_bid 0 0 124 [(0, .ref r0), (1, .int x1), (2, .int x2), (3, .int x3), (4, .int x4)] [.int s0, .ref sr1] M (fun r M2 => r = .inl (some (.int res)) ∧ M2 = M')) : ∀ (r0 : Nat) (x1 : Int32) (x2 : Int32) (x3 : Int32) (x4 : Int32) (s0 : Int32) (s1 : Int32) (sr1 : Nat) (s2 : Int32) (M : am_M), a_Model_bid_5 rc r0 x1 x2 x3 x4 s0 s1 sr1 s2 M = some (res, M') → AW u_Model_bid R_Model_bid 0 0 124 [(0, .ref r0), (1, .int x1), (2, .int x2), (3, .int x3), (4, .int x4)] [.int s0, .ref sr1] M (fun r M2 => r = .inl (some (.int res)) ∧ M2 = M') := by
  intro r0 x1 x2 x3 x4 s0 s1 sr1 s2 M h
  unfold a_Model_bid_5 at h
  refine aw_iconst (v := 3) d_Model_bid_124 (by decide) ?_
  obtain ⟨o125, e_o125, h⟩ := q_bind h
  obtain ⟨⟨t125, M125⟩, e_t125, h⟩ := q_bind h
  dsimp only at h
  refine aw_cV (v := (some (.int t125))) (As := [.int s0, .int (3 : Int32)]) (rest := []) (st' := [.int t125]) d_Model_bid_125 kV_Model_184 (q_ob_spec e_o125).1 (q_ob_spec e_o125).2 ⟨Nat.le_of_ble_eq_true rfl, Nat.le_of_ble_eq_true rfl, Nat.le_of_ble_eq_true rfl, Nat.le_of_ble_eq_true rfl⟩ rfl rfl (Nat.le_of_ble_eq_true rfl) rfl (mt_Model_fails e_t125) ?_
  refine aw_if_eq (tgt := 133) d_Model_bid_128 (by decide) (fun hc => ?_) (fun hc => ?_)
  · rw [if_pos hc] at h
    refine aw_bipush (v := 6) d_Model_bid_133 (by decide) ?_
    refine aw_iload_n d_Model_bid_135 rfl rfl ?_
    refine aw_imul d_Model_bid_136 ?_
    refine aw_aload_n d_Model_bid_137 rfl rfl ?_
    obtain ⟨t138, e_t138, h⟩ := q_bind h
    refine aw_gtr d_Model_bid_138 fl_Model_66 (Or.inr ⟨_, rfl⟩) e_t138 ?_
    refine aw_iload_n d_Model_bid_141 rfl rfl ?_
    obtain ⟨t142, e_t142, h⟩ := q_bind h
    refine aw_ldi d_Model_bid_142 e_t142 ?_
    refine aw_iadd d_Model_bid_143 ?_
    refine aw_istore (ls' := [(6, .int _), (0, .ref _), (1, .int _), (2, .int _), (3, .int _), (4, .int _)]) d_Model_bid_144 (Nat.le_of_ble_eq_true rfl) rfl ?_
    refine aw_aload_n d_Model_bid_146 rfl rfl ?_
    obtain ⟨t147, e_t147, h⟩ := q_bind h
    refine aw_gtr d_Model_bid_147 fl_Model_69 (Or.inr ⟨_, rfl⟩) e_t147 ?_
    refine aw_iload d_Model_bid_150 rfl ?_
    refine aw_iload_n d_Model_bid_152 rfl rfl ?_
    obtain ⟨M153, e_M153, h⟩ := q_bind h
    refine aw_sti d_Model_bid_153 e_M153 ?_
    refine aw_aload_n d_Model_bid_154 rfl rfl ?_
    obtain ⟨t155, e_t155, h⟩ := q_bind h
    refine aw_gtr d_Model_bid_155 fl_Model_72 (Or.inr ⟨_, rfl⟩) e_t155 ?_
    refine aw_iload d_Model_bid_158 rfl ?_
    refine aw_iload_n d_Model_bid_160 rfl rfl ?_
    obtain ⟨M161, e_M161, h⟩ := q_bind h
    refine aw_sti d_Model_bid_161 e_M161 ?_
    refine aw_aload_n d_Model_bid_162 rfl rfl ?_
    obtain ⟨t163, e_t163, h⟩ := q_bind h
    refine aw_gtr d_Model_bid_163 fl_Model_75 (Or.inr ⟨_, rfl⟩) e_t163 ?_
    refine aw_iload d_Model_bid_166 rfl ?_
    refine aw_iload d_Model_bid_168 rfl ?_
    obtain ⟨M170, e_M170, h⟩ := q_bind h
    refine aw_sti d_Model_bid_170 e_M170 ?_
    refine aw_aload_n d_Model_bid_171 rfl rfl ?_
    obtain ⟨t172, e_t172, h⟩ := q_bind h
    refine aw_gtr d_Model_bid_172 fl_Model_66 (Or.inr ⟨_, rfl⟩) e_t172 ?_
    refine aw_iload_n d_Model_bid_175 rfl rfl ?_
    refine aw_dup2 d_Model_bid_176 rfl rfl ?_
    obtain ⟨t177, e_t177, h⟩ := q_bind h
    refine aw_ldi d_Model_bid_177 e_t177 ?_
    refine aw_iconst (v := 1) d_Model_bid_178 (by decide) ?_
    refine aw_iadd d_Model_bid_179 ?_
    obtain ⟨M180, e_M180, h⟩ := q_bind h
    refine aw_sti d_Model_bid_180 e_M180 ?_
    refine aw_aload_n d_Model_bid_181 rfl rfl ?_
    obtain ⟨o182, e_o182, h⟩ := q_bind h
    obtain ⟨⟨t182, M182⟩, e_t182, h⟩ := q_bind h
    dsimp only at h
    refine aw_cV (v := none) (As := []) (rest := []) (st' := []) d_Model_bid_182 kV_Model_165 (q_ob_spec e_o182).1 (q_ob_spec e_o182).2 ⟨Nat.le_of_ble_eq_true rfl, Nat.le_of_ble_eq_true rfl, Nat.le_of_ble_eq_true rfl, Nat.le_of_ble_eq_true rfl⟩ rfl rfl (Nat.le_of_ble_eq_true rfl) rfl (mt_Model_unawards e_t182) ?_
    refine aw_aload_n d_Model_bid_185 rfl rfl ?_
    obtain ⟨t186, e_t186, h⟩ := q_bind h
    refine aw_gtr d_Model_bid_186 fl_Model_66 (Or.inr ⟨_, rfl⟩) e_t186 ?_
    refine aw_iload_n d_Model_bid_189 rfl rfl ?_
    obtain ⟨t190, e_t190, h⟩ := q_bind h
    refine aw_ldi d_Model_bid_190 e_t190 ?_
    cases h
    exact aw_ireturn d_Model_bid_191 rfl (Nat.le_of_ble_eq_true rfl) (Nat.le_of_ble_eq_true rfl) ⟨rfl, rfl⟩
  · rw [if_neg hc] at h
    refine aw_iconst (v := 0) d_Model_bid_131 (by decide) ?_
    cases h
    exact aw_ireturn d_Model_bid_132 rfl (Nat.le_of_ble_eq_true rfl) (Nat.le_of_ble_eq_true rfl) ⟨rfl, rfl⟩
theorem l_Model_bid {res : Int32} {M' : am_M} : ∀ F : Nat, (∀ (r0 : Nat) (x1 : Int32) (x2 : Int32) (x3 : Int32) (x4 : Int32) (s0 : Int32) (s1 : Int32) (sr1 : Nat) (s2 : Int32) (M : am_M), g_Model_bid F 0 r0 x1 x2 x3 x4 s0 s1 sr1 s2 M = some (res, M') → AW u_Model_bid R_Model_bid 0 0 40 [(0, .ref r0), (1, .int x1), (2, .int x2), (3, .int x3), (4, .int x4)] [.int s0, .int s1, .int s2] M (fun r M2 => r = .inl (some (.int res)) ∧ M2 = M')) ∧ (∀ (r0 : Nat) (x1 : Int32) (x2 : Int32) (x3 : Int32) (x4 : Int32) (s0 : Int32) (s1 : Int32) (sr1 : Nat) (s2 : Int32) (M : am_M), g_Model_bid F 1 r0 x1 x2 x3 x4 s0 s1 sr1 s2 M = some (res, M') → AW u_Model_bid R_Model_bid 0 0 64 [(0, .ref r0), (1, .int x1), (2, .int x2), (3, .int x3), (4, .int x4)] [] M (fun r M2 => r = .inl (some (.int res)) ∧ M2 = M')) ∧ (∀ (r0 : Nat) (x1 : Int32) (x2 : Int32) (x3 : Int32) (x4 : Int32) (s0 : Int32) (s1 : Int32) (sr1 : Nat) (s2 : Int32) (M : am_M), g_Model_bid F 2 r0 x1 x2 x3 x4 s0 s1 sr1 s2 M = some (res, M') → AW u_Model_bid R_Model_bid 0 0 65 [(0, .ref r0), (1, .int x1), (2, .int x2), (3, .int x3), (4, .int x4)] [.int s0] M (fun r M2 => r = .inl (some (.int res)) ∧ M2 = M')) ∧ (∀ (r0 : Nat) (x1 : Int32) (x2 : Int32) (x3 : Int32) (x4 : Int32) (s0 : Int32) (s1 : Int32) (sr1 : Nat) (s2 : Int32) (M : am_M), g_Model_bid F 3 r0 x1 x2 x3 x4 s0 s1 sr1 s2 M = some (res, M') → AW u_Model_bid R_Model_bid 0 0 78 [(0, .ref r0), (1, .int x1), (2, .int x2), (3, .int x3), (4, .int x4)] [.int s0, .ref sr1] M (fun r M2 => r = .inl (some (.int res)) ∧ M2 = M')) ∧ (∀ (r0 : Nat) (x1 : Int32) (x2 : Int32) (x3 : Int32) (x4 : Int32) (s0 : Int32) (s1 : Int32) (sr1 : Nat) (s2 : Int32) (M : am_M), g_Model_bid F 4 r0 x1 x2 x3 x4 s0 s1 sr1 s2 M = some (res, M') → AW u_Model_bid R_Model_bid 0 0 100 [(0, .ref r0), (1, .int x1), (2, .int x2), (3, .int x3), (4, .int x4)] [.int s0, .ref sr1] M (fun r M2 => r = .inl (some (.int res)) ∧ M2 = M')) ∧ (∀ (r0 : Nat) (x1 : Int32) (x2 : Int32) (x3 : Int32) (x4 : Int32) (s0 : Int32) (s1 : Int32) (sr1 : Nat) (s2 : Int32) (M : am_M), g_Model_bid F 5 r0 x1 x2 x3 x4 s0 s1 sr1 s2 M = some (res, M') → AW u_Model_bid R_Model_bid 0 0 124 [(0, .ref r0), (1, .int x1), (2, .int x2), (3, .int x3), (4, .int x4)] [.int s0, .ref sr1] M (fun r M2 => r = .inl (some (.int res)) ∧ M2 = M')) := by
  intro F
  induction F with
  | zero => exact ⟨fun _ _ _ _ _ _ _ _ _ _  h => (by cases h), fun _ _ _ _ _ _ _ _ _ _  h => (by cases h), fun _ _ _ _ _ _ _ _ _ _  h => (by cases h), fun _ _ _ _ _ _ _ _ _ _  h => (by cases h), fun _ _ _ _ _ _ _ _ _ _  h => (by cases h), fun _ _ _ _ _ _ _ _ _ _  h => (by cases h)⟩
  | succ F ih =>
    obtain ⟨ih0, ih1, ih2, ih3, ih4, ih5⟩ := ih
    exact ⟨s_Model_bid_0 ih0 ih1 ih2 ih3 ih4 ih5, s_Model_bid_1 ih0 ih1 ih2 ih3 ih4 ih5, s_Model_bid_2 ih0 ih1 ih2 ih3 ih4 ih5, s_Model_bid_3 ih0 ih1 ih2 ih3 ih4 ih5, s_Model_bid_4 ih0 ih1 ih2 ih3 ih4 ih5, s_Model_bid_5 ih0 ih1 ih2 ih3 ih4 ih5⟩
set_option maxHeartbeats 4000000 in
theorem mt_Model_bid {M : am_M} {a0 : Nat} {a1 : Int32} {a2 : Int32} {a3 : Int32} {a4 : Int32} {res : Int32} {M' : am_M} (h : f_Model_bid M a0 a1 a2 a3 a4 = some (res, M')) : AMet y_Model_bid u_Model_bid R_Model_bid [.ref a0, .int a1, .int a2, .int a3, .int a4] M (fun r M2 => r = .inl (some (.int res)) ∧ M2 = M') := by
  refine am_met (by decide +kernel) w_Model_bid rfl rfl (Nat.le_of_ble_eq_true rfl) ?_
  show AW u_Model_bid R_Model_bid 0 0 0 [(0, .ref a0), (1, .int a1), (2, .int a2), (3, .int a3), (4, .int a4)] [] M (fun r M2 => r = .inl (some (.int res)) ∧ M2 = M')
  have ih_0 := (l_Model_bid (res := res) (M' := M') 1000000000).1
  have ih_1 := (l_Model_bid (res := res) (M' := M') 1000000000).2.1
  have ih_2 := (l_Model_bid (res := res) (M' := M') 1000000000).2.2.1
  have ih_3 := (l_Model_bid (res := res) (M' := M') 1000000000).2.2.2.1
  have ih_4 := (l_Model_bid (res := res) (M' := M') 1000000000).2.2.2.2.1
  have ih_5 := (l_Model_bid (res := res) (M' := M') 1000000000).2.2.2.2.2
  unfold f_Model_bid at h
  unfold e_Model_bid at h
  generalize g_Model_bid 1000000000 = rc at h ih_0 ih_1 ih_2 ih_3 ih_4 ih_5
  refine aw_iload_n d_Model_bid_0 rfl rfl ?_
  refine aw_iconst (v := 0) d_Model_bid_1 (by decide) ?_
  refine aw_iconst (v := 3) d_Model_bid_2 (by decide) ?_
  obtain ⟨t3, e_t3, h⟩ := q_bind h
  refine aw_cS (v := (some (.int t3))) (As := [.int a1, .int (0 : Int32), .int (3 : Int32)]) (rest := []) (st' := [.int t3]) d_Model_bid_3 kS_Model_180 ⟨Nat.le_of_ble_eq_true rfl, Nat.le_of_ble_eq_true rfl, Nat.le_of_ble_eq_true rfl, Nat.le_of_ble_eq_true rfl⟩ rfl rfl (Nat.le_of_ble_eq_true rfl) rfl (mt_Model_within e_t3) ?_
  refine aw_if_eq (tgt := 64) d_Model_bid_6 (by decide) (fun hc => ?_) (fun hc => ?_)
  · rw [if_pos hc] at h
    exact aw_pick [0, 1, 2, 3, 4] rfl (ih_1 _ _ _ _ _ _ _ _ _ _ h)
  · rw [if_neg hc] at h
    refine aw_iload_n d_Model_bid_9 rfl rfl ?_
    refine aw_iconst (v := 0) d_Model_bid_10 (by decide) ?_
    refine aw_iconst (v := 2) d_Model_bid_11 (by decide) ?_
    obtain ⟨t12, e_t12, h⟩ := q_bind h
    refine aw_cS (v := (some (.int t12))) (As := [.int a2, .int (0 : Int32), .int (2 : Int32)]) (rest := []) (st' := [.int t12]) d_Model_bid_12 kS_Model_180 ⟨Nat.le_of_ble_eq_true rfl, Nat.le_of_ble_eq_true rfl, Nat.le_of_ble_eq_true rfl, Nat.le_of_ble_eq_true rfl⟩ rfl rfl (Nat.le_of_ble_eq_true rfl) rfl (mt_Model_within e_t12) ?_
    refine aw_if_eq (tgt := 64) d_Model_bid_15 (by decide) (fun hc => ?_) (fun hc => ?_)
    · rw [if_pos hc] at h
      exact aw_pick [0, 1, 2, 3, 4] rfl (ih_1 _ _ _ _ _ _ _ _ _ _ h)
    · rw [if_neg hc] at h
      refine aw_iload_n d_Model_bid_18 rfl rfl ?_
      refine aw_iconst (v := 0) d_Model_bid_19 (by decide) ?_
      refine aw_iload_n d_Model_bid_20 rfl rfl ?_
      refine aw_if_ne (tgt := 29) d_Model_bid_21 (by decide) (fun hc => ?_) (fun hc => ?_)
      · rw [if_neg hc] at h
        refine aw_iload_n d_Model_bid_29 rfl rfl ?_
        refine aw_iconst (v := 1) d_Model_bid_30 (by decide) ?_
        refine aw_icmp_ne (tgt := 38) d_Model_bid_31 (by decide) (fun hc => ?_) (fun hc => ?_)
        · rw [if_neg hc] at h
          refine aw_bipush (v := 13) d_Model_bid_38 (by decide) ?_
          exact aw_pick [0, 1, 2, 3, 4] rfl (ih_0 _ _ _ _ _ _ _ _ _ _ h)
        · rw [if_pos hc] at h
          refine aw_iconst (v := 4) d_Model_bid_34 (by decide) ?_
          refine aw_goto (tgt := 40) d_Model_bid_35 (by decide) ?_
          exact aw_pick [0, 1, 2, 3, 4] rfl (ih_0 _ _ _ _ _ _ _ _ _ _ h)
      · rw [if_pos hc] at h
        refine aw_bipush (v := 11) d_Model_bid_24 (by decide) ?_
        refine aw_goto (tgt := 40) d_Model_bid_26 (by decide) ?_
        exact aw_pick [0, 1, 2, 3, 4] rfl (ih_0 _ _ _ _ _ _ _ _ _ _ h)
