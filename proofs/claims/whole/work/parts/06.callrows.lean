/-! ===== rows of the judgement AW over calls ===== -/
def am_noMH (y : MethodName) (n : Nat) : Prop := (y.cls ≠ "java/lang/invoke/MethodHandle" ∧ y.cls ≠ "java/lang/invoke/VarHandle") ∧ (parseMethodDescriptor y.desc).map (fun d => d.parameters.length) = some n
/-- what a call needs of the tables: a static method, an instance's, a constructor, a nest mate's constructor -/
def am_kS (own : String) (idx : Nat) (y : MethodName) (u' : am_U) (n : Nat) : Prop := Cond.methodLink own idx y ∈ lw_tbl ∧ Cond.static y ∈ lw_tbl ∧ Cond.initialized y.cls ∈ lw_tbl ∧ am_code y u' ∈ am_ws ∧ am_noMH y n
def am_kV (own : String) (idx ci : Nat) (y : MethodName) (u' : am_U) (n : Nat) : Prop := Cond.methodLink own idx y ∈ lw_tbl ∧ (Cond.instanceMethod y ∈ lw_tbl ∧ Cond.selects (am_C ci) y y ∈ lw_tbl) ∧ Cond.initialized y.cls ∈ lw_tbl ∧ am_code y u' ∈ am_ws ∧ am_noMH y n
def am_kI (own : String) (idx : Nat) (y : MethodName) (u' : am_U) (n : Nat) : Prop := (Cond.methodLink own idx y ∈ lw_tbl ∨ ∃ host, Cond.methodLinkNest own idx y host ∈ lw_tbl) ∧ (Cond.instanceMethod y ∈ lw_tbl ∧ y.name = "<init>" ∧ u'.2.2.2.2.1 = none ∧ u'.2.2.2.2.2 = []) ∧ Cond.initialized y.cls ∈ lw_tbl ∧ am_code y u' ∈ am_ws ∧ am_noMH y n
/-- room for a callee -/
def am_rm (R R' : Room) (u' : am_U) (ce sl : Nat) : Prop := R'.frames + 1 ≤ R.frames ∧ 8 + (u'.2.2.2.1 + 11) + R'.locals ≤ R.locals ∧ ce + R'.cells ≤ R.cells ∧ sl + R'.slots ≤ R.slots
theorem am_noMH_len {y : MethodName} {n : Nat} (h : am_noMH y n) {As : List Value} (hA : As.length = n) : ∀ sig, parseMethodDescriptor y.desc = some sig → As.length = sig.parameters.length := by
  intro sig hs
  have h2 := h.2
  rw [hs] at h2
  exact hA.trans (Option.some.inj h2).symm
section AWK
variable {u : am_U} {R : Room} {ce sl pc : Nat} {ls : List (Nat × Value)} {st : List Value} {M : am_M} {post : am_R → am_M → Prop}
variable {p : Program} {l : Launch} {e : Env} {s : State} {m : MethodId} {args : Array Value} {below : List Frame} {meth : Method} {c : Code} {H : Heap} {locs : List Loc} {la : Array Slot} {G : am_G} {U T : State}
variable {y : MethodName} {u' : am_U} {R' : Room} {As : List Value} {post' : am_R → am_M → Prop} {idx n : Nat}
theorem am_cats (G : am_G) (st : List Value) : ((st.map (am_v G)).map fun v => v.category).sum = (st.map fun v => v.category).sum := by
  rw [List.map_map]
  congr 1
  apply List.map_congr_left
  intro v _
  exact am_v_cat G v
/-- a throwable that no handler of the method covers leaves it -/
theorem am_leave {g : JFrame} {k : Nat} {a : Addr} {cell : Cell} (X : Stand p l e R s m args below meth c T locs ce sl) (hF : am_F u p s m args meth c) (hh : u.2.2.2.2.2 = []) (hg : g.method = m) (hlk : g.locked = none) (hen : g.entered = []) (hce : ce ≤ R.cells) (hsl : sl ≤ R.slots) (hP : am_P G M T.heap) (hS : va_S (am_A G) s.heap T.heap locs)
    (hp : post (.inr k) M) (h1 : T.heap[a]? = some cell) (h2 : cell.vm.isStatics = false) (h3 : s.vm.findClass (am_X k) = some cell.cls) : ∃ t, Steps p.tables e below ((T.setTop g).pushFrame (.throwing a)) t ∧ am_MQ G below post R.cells R.slots s t := by
  have hout : ∀ x ∈ c.exceptionTable.toList, covers x g.pc = false := by
    intro x hx
    have h9 := hF.2.2.2.2.2.2.2.2
    rw [hh] at h9
    rw [List.map_eq_nil_iff.mp h9] at hx
    cases hx
  obtain ⟨r1, r2, r3, r4, r5⟩ := X.leaveThrown a hg hlk hen hout (hlocks := hF.2.2.2.2.2.2.1)
  refine ⟨_, r1, .threw a, r2, r3, ⟨.inr k, M, hp, ⟨a, cell, rfl, h1, h2, ?_⟩, hP⟩, hS.F rfl, locs, ⟨r4, r5.mono hce hsl⟩, hS.2.2⟩
  rw [r4.alike.findClass]
  exact h3
theorem am_goes {g : JFrame} {ig : Instr} {mk : MethodId} {rest : List Value} (hF : am_F u p s m args meth c) (hL : am_L l) (hK : am_K G s) (hZ : am_Z G s s.heap) (hP : am_P G M U.heap) (hS : va_S (am_A G) s.heap U.heap locs) (hb : am_b G ≤ s.heap.size) (hl : lv_has la u.2.2.2.1 (am_lv G ls))
    (hM : AMet y u' R' As M post') (hc : am_code y u' ∈ am_ws) (hini : Cond.initialized y.cls ∈ lw_tbl) (hrm : am_rm R R' u' ce sl) (hro : (rest.map fun v => v.category).sum ≤ 8)
    (X : Stand p l e R s m args below meth c U locs ce sl) (hdg : decode u.2.2.1 pc = .ok (ig, 3)) (hn : U.methodNamed? y = some mk) (hg : g = F0 m pc la (rest.map (am_v G)))
    (kk : ∀ v M', post' (.inl v) M' → AW u R (ce + R'.cells) (sl + R'.slots) (pc + 3) ls (v.toList ++ rest) M' post) (kt : ∀ k M', post' (.inr k) M' → u.2.2.2.2.2 = [] ∧ post (.inr k) M') :
    ∃ t, Steps p.tables e below (doInvoke e (U.setTop g) [] mk (As.map (am_v G)).toArray).1 t ∧ am_MQ G below post R.cells R.slots s t := by
  subst hg
  obtain ⟨hfr, hlo, hce, hsl⟩ := hrm
  obtain ⟨r, M', T', L, hpost, hP', X', hS', hr⟩ := am_call (g := F0 m pc la (rest.map (am_v G))) (ig := ig) (len := 3) hF hL hK hZ hP hS hb hM hc (am_mem hini rfl) hfr hlo hce hsl X rfl (hl.1.trans hF.2.2.1.symm) (by rw [hF.2.1]; exact hdg)
    (by show 2 * 0 + _ ≤ 8; rw [am_cats]; omega) hn
  cases r with
  | inl v =>
    have K := kk v M' hpost G p l e s m args below meth c T'.heap _ la hF hL hK hZ hP' hS' hb hl
    obtain ⟨t, a1, b1⟩ := K T' rfl X'
    refine ⟨t, hr t ?_, b1⟩
    have e1 : (v.toList ++ rest).map (am_v G) = (v.map (am_v G)).toList ++ rest.map (am_v G) := by
      rw [List.map_append]
      cases v <;> rfl
    rw [e1] at a1
    exact a1
  | inr k =>
    obtain ⟨a, cell, h1, h2, h3, h4⟩ := hr
    obtain ⟨hh, hp⟩ := kt k M' hpost
    obtain ⟨t, a1, b1⟩ := am_leave X' hF hh (g := F0 m pc la (rest.map (am_v G))) rfl rfl rfl hce hsl hP' hS' hp h1 h2 h3
    exact ⟨t, h4 t a1, b1⟩
theorem aw_callS {rest : List Value} (hd : decode u.2.2.1 pc = .ok (.invokestatic idx, 3)) (hw : am_kS u.1 idx y u' n) (hrm : am_rm R R' u' ce sl) (hM : AMet y u' R' As M post') (hA : As.length = n) (hst : As.reverse ++ rest = st) (hro : (rest.map fun v => v.category).sum ≤ 8)
    (kt : ∀ k M', post' (.inr k) M' → u.2.2.2.2.2 = [] ∧ post (.inr k) M') (kk : ∀ v M', post' (.inl v) M' → AW u R (ce + R'.cells) (sl + R'.slots) (pc + 3) ls (v.toList ++ rest) M' post) : AW u R ce sl pc ls st M post := by
  subst hst
  intro G p l e s m args below meth c H locs la hF hL hK hZ hP hS hb hl T hT X
  obtain ⟨w1, w2, w3, w4, w5⟩ := hw
  have hts := hF.2.2.2.2.1
  have hcode := hts _ w4
  obtain ⟨mk, hnamed⟩ : ∃ mk, s.methodNamed? y = some mk := by
    unfold am_code at hcode
    split at hcode
    · exact Cond.code_named hcode
    · obtain ⟨m', _, _, h0, -⟩ := Cond.codeWith_spec hcode
      exact ⟨m', h0⟩
  obtain ⟨methM, cM, hmethM, -, -, -, -, -, -, hsigM⟩ := am_code_spec hnamed hcode
  have hstatic : methM.isStatic = true := Cond.static_spec hnamed hmethM (hts _ (am_mem w2 rfl))
  obtain ⟨kP, hkP, -⟩ := className_of_methodNamed hnamed
  have hinitP : kP.init = .initialized := Cond.initialized_spec (findClass_of_methodNamed hnamed) hkP (hts _ (am_mem w3 rfl))
  have hlen := am_noMH_len w5 hA
  obtain ⟨vm₁, X₁, hstep₁⟩ := X.invokestatic hF.1 hF.2.2.2.1 (hts _ (am_mem w1 rfl)) hnamed hmethM hstatic hkP hinitP w5.1 (g := F0 m pc la ((As.reverse ++ rest).map (am_v G))) rfl (argsL := As.map (am_v G)) (rest := rest.map (am_v G)) (by rw [List.length_map]; exact hlen _ hsigM) (by rw [List.map_append, List.map_reverse]) (by rw [hF.2.1]; exact hd)
  obtain ⟨t, a1, b1⟩ := am_goes (U := T.setVm vm₁) hF hL hK hZ (by show am_P G M T.heap; rw [hT]; exact hP) (by show va_S (am_A G) s.heap T.heap locs; rw [hT]; exact hS) hb hl hM w4 w3 hrm hro X₁ hd (X₁.named hnamed) rfl kk kt
  exact ⟨t, hstep₁ _ fun acts => by rw [doInvoke_state]; exact a1, b1⟩
theorem am_recv {i ci : Nat} (hK : am_K G s) (hP : am_P G M H) (hi : i < am_n M) (hs : am_s M i = (0, ci)) : ∃ cell : Cell, H[am_a G i]? = some cell ∧ cell.vm.isStatics = false ∧ s.vm.findClass (am_C ci) = some cell.cls := by
  have hat := hP.2.2 i hi
  unfold am_at at hat
  rw [hs] at hat
  obtain ⟨hc, cell, q1, q2, q3, q4⟩ := hat
  obtain ⟨hS', hfc, kC, hkC, hkind⟩ := hK.1 ci _ (am_cl_get hc)
  exact ⟨cell, q1, by rw [q3]; rfl, by rw [q2]; exact hfc⟩
theorem aw_callV {i ci : Nat} {rest : List Value} (hd : decode u.2.2.1 pc = .ok (.invokevirtual idx, 3)) (hw : am_kV u.1 idx ci y u' n) (hi : i < am_n M) (hs : am_s M i = (0, ci)) (hrm : am_rm R R' u' ce sl) (hM : AMet y u' R' (.ref i :: As) M post') (hA : As.length = n) (hst : As.reverse ++ .ref i :: rest = st) (hro : (rest.map fun v => v.category).sum ≤ 8)
    (kt : ∀ k M', post' (.inr k) M' → u.2.2.2.2.2 = [] ∧ post (.inr k) M') (kk : ∀ v M', post' (.inl v) M' → AW u R (ce + R'.cells) (sl + R'.slots) (pc + 3) ls (v.toList ++ rest) M' post) : AW u R ce sl pc ls st M post := by
  subst hst
  intro G p l e s m args below meth c H locs la hF hL hK hZ hP hS hb hl T hT X
  obtain ⟨w1, w2, w3, w4, w5⟩ := hw
  have hts := hF.2.2.2.2.1
  obtain ⟨cellB, hcB, hoB, hclB⟩ := am_recv (s := s) hK hP hi hs
  obtain ⟨mk, methM, hnamed, hmethM, hstM, habM⟩ := Cond.instanceMethod_spec (hts _ (am_mem w2.1 rfl))
  obtain ⟨methM', cM, hmethM', -, -, -, -, -, -, hsigM⟩ := am_code_spec hnamed (hts _ w4)
  cases hmethM.symm.trans hmethM'
  obtain ⟨c2, r2, m2, q1, q2, q3, q4, kP, hkP, hkPi⟩ := Cond.selects_spec (hts _ (am_mem w2.2 rfl))
  cases hclB.symm.trans q1
  cases (State.methodFound?_of_named hnamed w5.1).symm.trans q2
  cases hnamed.symm.trans q3
  have hselP : selectMethod e.platform s.vm cellB.cls mk = .method mk := by rw [Launch.admits_selectMethod X.admits]; exact q4
  have hlen := am_noMH_len w5 hA
  obtain ⟨vm₁, X₁, hstep₁⟩ := X.invokevirtual hF.1 hF.2.2.2.1 (hts _ (am_mem w1 rfl)) hnamed hmethM hstM hkP hkPi w5.1 (a := am_a G i) (cell := cellB) (by rw [hT]; exact hcB)
    (fun z h => by rw [h] at hoB; cases hoB) hselP hmethM habM hkP hkPi (g := F0 m pc la ((As.reverse ++ .ref i :: rest).map (am_v G))) rfl (argsL := As.map (am_v G)) (rest := rest.map (am_v G)) (by rw [List.length_map]; exact hlen _ hsigM) (by rw [List.map_append, List.map_reverse]; rfl) (by rw [hF.2.1]; exact hd)
  obtain ⟨t, a1, b1⟩ := am_goes (U := T.setVm vm₁) hF hL hK hZ (by show am_P G M T.heap; rw [hT]; exact hP) (by show va_S (am_A G) s.heap T.heap locs; rw [hT]; exact hS) hb hl hM w4 w3 hrm hro X₁ hd (X₁.named hnamed) rfl kk kt
  exact ⟨t, hstep₁ _ fun acts => by rw [doInvoke_state]; exact a1, b1⟩
theorem aw_callI {i : Nat} {rest : List Value} (hd : decode u.2.2.1 pc = .ok (.invokespecial idx, 3)) (hw : am_kI u.1 idx y u' n) (hrm : am_rm R R' u' ce sl) (hM : AMet y u' R' (.ref i :: As) M post') (hA : As.length = n) (hst : As.reverse ++ .ref i :: rest = st) (hro : (rest.map fun v => v.category).sum ≤ 8)
    (kt : ∀ k M', post' (.inr k) M' → u.2.2.2.2.2 = [] ∧ post (.inr k) M') (kk : ∀ v M', post' (.inl v) M' → AW u R (ce + R'.cells) (sl + R'.slots) (pc + 3) ls (v.toList ++ rest) M' post) : AW u R ce sl pc ls st M post := by
  subst hst
  intro G p l e s m args below meth c H locs la hF hL hK hZ hP hS hb hl T hT X
  obtain ⟨w1, ⟨w2, wn, wr, wh⟩, w3, w4, w5⟩ := hw
  have hts := hF.2.2.2.2.1
  have hcode : (Cond.code y u'.2.2.1 u'.2.2.2.1 none).before args s = true := by
    have h := hts _ w4
    unfold am_code at h
    rw [wh, wr] at h
    exact h
  have hlen := am_noMH_len w5 hA
  have hpl : e.platform.magicAccessors = ({} : Platform).magicAccessors := by rw [X.admits.platform]
  have hlen' : ∀ sig, parseMethodDescriptor y.desc = some sig → (As.map (am_v G)).length = sig.parameters.length := fun sig h => by rw [List.length_map]; exact hlen sig h
  have hstk : (F0 m pc la ((As.reverse ++ .ref i :: rest).map (am_v G))).stack = (As.map (am_v G)).reverse ++ .ref (am_a G i) :: rest.map (am_v G) := by
    show (As.reverse ++ .ref i :: rest).map (am_v G) = _
    rw [List.map_append, List.map_reverse]; rfl
  have hdg : decode c.code (F0 m pc la ((As.reverse ++ .ref i :: rest).map (am_v G))).pc = .ok (.invokespecial idx, 3) := by rw [hF.2.1]; exact hd
  have fin : ∀ (mk : MethodId) (vm₁ : Vm), s.methodNamed? y = some mk → s.WarmedH vm₁ → (∀ target, (∀ acts, Steps p.tables e below (doInvoke e ((T.setVm vm₁).setTop (F0 m pc la (rest.map (am_v G)))) acts mk (Value.ref (am_a G i) :: As.map (am_v G)).toArray).1 target) → Steps p.tables e below (T.setTop (F0 m pc la ((As.reverse ++ .ref i :: rest).map (am_v G)))) target) →
      ∃ t, Steps p.tables e below (T.setTop (F0 m pc la ((As.reverse ++ .ref i :: rest).map (am_v G)))) t ∧ am_MQ G below post R.cells R.slots s t := by
    intro mk vm₁ hnamed hW₁ hstep₁
    have X₁ := X.noted hW₁
    obtain ⟨t, a1, b1⟩ := am_goes (U := T.setVm vm₁) hF hL hK hZ (by show am_P G M T.heap; rw [hT]; exact hP) (by show va_S (am_A G) s.heap T.heap locs; rw [hT]; exact hS) hb hl hM w4 w3 hrm hro X₁ hd (X₁.named hnamed) rfl kk kt
    exact ⟨t, hstep₁ _ fun acts => by rw [doInvoke_state]; exact a1, b1⟩
  rcases w1 with w1 | ⟨host, w1⟩
  · obtain ⟨mk, methM, cM, kP, vm₁, hnamed, hmethM, hcodeM, -, hlocalsM, -, hkP, -, hW₁, hstep₁⟩ := Steps.initColdArgs (e := e) X.here hF.1 X.warmed hpl hF.2.2.2.1 wn w5.1 (hts _ (am_mem w1 rfl)) (hts _ (am_mem w2 rfl)) hcode (f := F0 m pc la ((As.reverse ++ .ref i :: rest).map (am_v G))) rfl hlen' hstk hdg
    exact fin mk vm₁ hnamed hW₁ hstep₁
  · obtain ⟨mk, methM, cM, kP, vm₁, hnamed, hmethM, hcodeM, -, hlocalsM, -, hkP, -, hW₁, hstep₁⟩ := Steps.initColdArgsNest (e := e) X.here hF.1 X.warmed hpl hF.2.2.2.1 wn w5.1 (hts _ (am_mem w1 rfl)) (hts _ (am_mem w2 rfl)) hcode (f := F0 m pc la ((As.reverse ++ .ref i :: rest).map (am_v G))) rfl hlen' hstk hdg
    exact fin mk vm₁ hnamed hW₁ hstep₁
end AWK
