/-! ===== a call in a method that has handlers round it ===== -/
def am_firstQ : List (Nat × Nat × Nat × Nat) → List Nat → Nat → Option Nat
  | x :: xs, j :: js, k => if j = k then some x.2.2.1 else am_firstQ xs js k
  | _, _, _ => none
theorem am_first_eq : ∀ (es : List ExceptionTableEntry) (ks : List Nat) (k : Nat), am_first es ks k = am_firstQ (es.map (fun x => (x.startPc, x.endPc, x.handlerPc, x.catchType))) ks k
  | [], ks, k => by cases ks <;> rfl
  | x :: xs, [], k => rfl
  | x :: xs, j :: js, k => by
    show (if j = k then some x.handlerPc else am_first xs js k) = (if j = k then some x.handlerPc else am_firstQ _ js k)
    rw [am_first_eq xs js k]
def am_drop (j : Nat) (ls : List (Nat × Value)) : List (Nat × Value) := ls.filter (fun q => !(q.1 == j) && !(q.1 + 1 == j && q.2.category == 2))
theorem am_lv_drop (G : am_G) (j : Nat) (ls : List (Nat × Value)) : (am_lv G ls).filter (fun q => !(q.1 == j) && !(q.1 + 1 == j && q.2.category == 2)) = am_lv G (am_drop j ls) := by
  unfold am_lv am_drop
  rw [List.filter_map]
  congr 1
  apply List.filter_congr
  intro q _
  simp only [Function.comp, am_v_cat]
set_option maxHeartbeats 1000000 in
theorem aw_callVH {u : am_U} {R : Room} {ce sl pc : Nat} {ls : List (Nat × Value)} {st : List Value} {M : am_M} {post : am_R → am_M → Prop} {y : MethodName} {u' : am_U} {R' : Room} {As : List Value} {post' : am_R → am_M → Prop} {idx n i ci : Nat} {rest : List Value} (ks : List Nat)
    (hd : decode u.2.2.1 pc = .ok (.invokevirtual idx, 3)) (hw : am_kV u.1 idx ci y u' n) (hi : i < am_n M) (hs : am_s M i = (0, ci)) (hrm : am_rm R R' u' ce sl) (hM : AMet y u' R' (.ref i :: As) M post') (hA : As.length = n) (hst : As.reverse ++ .ref i :: rest = st) (hro : (rest.map fun v => v.category).sum ≤ 8)
    (hall : ∀ (a : Nat) (q : Nat × Nat × Nat × Nat) (j : Nat), u.2.2.2.2.2[a]? = some q → ks[a]? = some j → (q.1 ≤ pc ∧ pc < q.2.1) ∧ q.2.2.2 ≠ 0 ∧ j < 3 ∧ Cond.classLink u.1 q.2.2.2 (am_X j) ∈ lw_tbl)
    (kt : ∀ k M', post' (.inr k) M' → k < 3 ∧ ∃ (hp : Nat) (jn : Fin 4), am_firstQ u.2.2.2.2.2 ks k = some hp ∧ decode u.2.2.1 hp = .ok (.astore_n jn, 1) ∧ (jn : Nat) < u.2.2.2.1 ∧ AW u R (ce + R'.cells) (sl + R'.slots) (hp + 1) (am_drop jn ls) [] M' post)
    (kk : ∀ v M', post' (.inl v) M' → AW u R (ce + R'.cells) (sl + R'.slots) (pc + 3) ls (v.toList ++ rest) M' post) : AW u R ce sl pc ls st M post := by
  subst hst
  intro G p l e s m args below meth c H locs la hF hL hK hZ hP hS hb hl T hT X
  obtain ⟨w1, w2, w3, w4, w5⟩ := hw
  have hts := hF.2.2.2.2.1
  obtain ⟨cellB, hcB, hoB, hclB⟩ := am_recv (s := s) hK hP hi hs
  obtain ⟨mk, methM, hnamed, hmethM, hstM, habM⟩ := Cond.instanceMethod_spec (hts _ (am_mem w2.1 rfl))
  obtain ⟨methM', cM, hmethM', -, -, -, -, -, -, hsigM⟩ := am_code_spec hnamed (hts _ w4)
  cases hmethM.symm.trans hmethM'
  obtain ⟨c2, r2, m2, q1, q2, q3, q4, kP, hkP, hkPi⟩ := Cond.selects_spec (hts _ (am_mem w2.2 rfl))
  cases hclB.symm.trans q1
  cases (State.methodFound?_of_named hnamed w5.1).symm.trans q2
  cases hnamed.symm.trans q3
  have hselP : selectMethod e.platform s.vm cellB.cls mk = .method mk := by rw [Launch.admits_selectMethod X.admits]; exact q4
  have hlen := am_noMH_len w5 hA
  obtain ⟨vm₁, X₁, hstep₁⟩ := X.invokevirtual hF.1 hF.2.2.2.1 (hts _ (am_mem w1 rfl)) hnamed hmethM hstM hkP hkPi w5.1 (a := am_a G i) (cell := cellB) (by rw [hT]; exact hcB)
    (fun z h => by rw [h] at hoB; cases hoB) hselP hmethM habM hkP hkPi (g := F0 m pc la ((As.reverse ++ .ref i :: rest).map (am_v G))) rfl (argsL := As.map (am_v G)) (rest := rest.map (am_v G)) (by rw [List.length_map]; exact hlen _ hsigM) (by rw [List.map_append, List.map_reverse]; rfl) (by rw [hF.2.1]; exact hd)
  obtain ⟨hfr, hlo, hce, hsl⟩ := hrm
  obtain ⟨r, M', T', L, hpost, hP', X', hS', hr⟩ := am_call (U := T.setVm vm₁) (g := F0 m pc la (rest.map (am_v G))) (ig := .invokevirtual idx) (len := 3) hF hL hK hZ (by show am_P G M T.heap; rw [hT]; exact hP) (by show va_S (am_A G) s.heap T.heap locs; rw [hT]; exact hS) hb hM w4 (am_mem w3 rfl) hfr hlo hce hsl X₁ rfl (hl.1.trans hF.2.2.1.symm) (by rw [hF.2.1]; exact hd)
    (by show 2 * 0 + _ ≤ 8; rw [am_cats]; omega) (X₁.named hnamed)
  cases r with
  | inl v =>
    have K := kk v M' hpost G p l e s m args below meth c T'.heap _ la hF hL hK hZ hP' hS' hb hl
    obtain ⟨t, a1, b1⟩ := K T' rfl X'
    have e1 : (v.toList ++ rest).map (am_v G) = (v.map (am_v G)).toList ++ rest.map (am_v G) := by
      rw [List.map_append]
      cases v <;> rfl
    rw [e1] at a1
    exact ⟨t, hstep₁ _ fun acts => by rw [doInvoke_state]; exact hr t a1, b1⟩
  | inr k =>
    obtain ⟨a, cell, h1, h2, h3, h4⟩ := hr
    obtain ⟨hk3, hp, jn, hq1, hq2, hq3, hq4⟩ := kt k M' hpost
    have htab := hF.2.2.2.2.2.2.2.2
    have hfst : am_first c.exceptionTable.toList ks k = some hp := by rw [am_first_eq, htab]; exact hq1
    obtain ⟨vm', hw', hFG⟩ := am_findL (g := F0 m pc la (rest.map (am_v G))) hF hZ X' rfl hk3 h1 h2 h3 c.exceptionTable.toList ks T'.vm hp X'.warmed (fun i' x j a1 a2 => by
      have a3 : u.2.2.2.2.2[i']? = some (x.startPc, x.endPc, x.handlerPc, x.catchType) := by rw [← htab, List.getElem?_map, a1]; rfl
      obtain ⟨b1, b2, b3, b4⟩ := hall i' _ j a3 a2
      refine ⟨?_, b2, b3, b4⟩
      unfold covers
      simp only [Bool.and_eq_true, decide_eq_true_eq]
      exact b1) hfst
    have X2 := X'.noted hw'
    have hl2 : W p l e R s m args below meth c T'.heap (locs ++ L) (ce + R'.cells) (sl + R'.slots) (am_MQ G below post R.cells R.slots s) (F0 m hp la [.ref a]) := by
      refine lv_astore_n hF.1 hF.2.1 hq2 rfl hl hq3 rfl (fun la' hl' => ?_)
      refine hq4 G p l e s m args below meth c T'.heap _ la' hF hL hK hZ hP' hS' hb ⟨hl'.1, hl'.2.1, fun q hq => hl'.2.2 q (List.mem_cons_of_mem _ ?_)⟩
      rw [am_lv_drop]
      exact hq
    obtain ⟨t, a1, b1⟩ := hl2 (T'.setVm vm') rfl X2
    refine ⟨t, hstep₁ _ fun acts => ?_, b1⟩
    rw [doInvoke_state]
    refine h4 t (am_caught (vm' := vm') (pc := hp) X'.here (fun Q E d acts => ?_) a1)
    rw [W.findHandler_eq (meth := meth) (code := c) (by exact X'.method') X'.code]
    exact hFG Q E d acts
