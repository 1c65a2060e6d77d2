/-! ===== a method's contract over the memory, and calls ===== -/
theorem am_sf.go {A : Nat → Prop} {C n d : String} {s U : State} (hW : s.WarmedH U.vm) (hq : ∀ a : Nat, a < s.heap.size → ¬ A a → U.heap[a]? = s.heap[a]?) (h : am_sf A C n d s) : am_sf A C n d U := by
  obtain ⟨h1, h2, h3⟩ := h
  obtain ⟨c, k, i, f, a, cell, hc, hi, hst, ha, hcell, hs, hcls, hlt, hty⟩ := Cond.laysStatic_spec h1
  obtain ⟨k', hi', hk'⟩ := State.fieldFound?_setVm (s := s) hW.alike hi
  have hiU : U.fieldFound? C n d = some (c, k', i, f) := by simpa only [State.fieldFound?, State.vm_setVm] using hi'
  have hna := h3 c k i f a hi ha
  have ha' : k'.statics = some a := by rw [hk']; exact ha
  have hU : U.heap[a]? = some cell := (hq a (Array.getElem?_eq_some_iff.mp hcell).1 hna).trans hcell
  refine ⟨Cond.laysStatic_of (s := U) (by rw [hW.alike.findClass]; exact hc) hiU hst ha' hU hs hcls hlt (by rw [hk']; exact hty), ?_, fun c' k2 i' f' a' g1 g2 => ?_⟩
  · cases hv : (Term.static C n d).eval #[] s none [] s with
    | none => simp [Cond.before, Cond.holds, Cond.value, hv] at h2
    | some v =>
      obtain ⟨-, a2, cell2, ha2, hcell2, -, hslot⟩ := Term.static_spec hi hv
      cases ha.symm.trans ha2
      cases hcell.symm.trans hcell2
      have e := Term.static_eval (args := #[]) (first := U) (o := none) (idx := []) (s := U) hiU hst ha' hU hs hslot
      simp only [Cond.before, Cond.holds, Cond.value, hv, e] at h2 ⊢
      exact h2
  · cases hiU.symm.trans g1
    cases ha'.symm.trans g2
    exact hna
def am_ac (comp : ClassId) (x : Class) : Bool := match x.kind with
  | .array component _ => component == comp
  | _ => false
def am_ak (f : String → Option ClassId) (c : ClassId) (k : Class) : Bool := match k.kind with
  | .array _ ty => decide (ty = FieldType.array FieldType.int) && decide (f ("[" ++ (FieldType.array FieldType.int).toString) = some c)
  | _ => false
theorem am_AOe (V : State) : (Cond.arrayOver (.array .int)).before #[] V = ((V.vm.findClass (FieldType.array FieldType.int).toString).bind (fun comp => (V.vm.classes.findIdx? (am_ac comp)).bind (fun c => (V.vm.classes[c]?).map (am_ak (fun n => V.vm.findClass n) c))) == some true) := rfl
theorem am_AOA {u U : State} (hvm : u.vm.Alike U.vm) (h : (Cond.arrayOver (.array .int)).before #[] u = true) : (Cond.arrayOver (.array .int)).before #[] U = true := by
  have hbare : U.vm.bare = u.vm.bare := by first | exact hvm.bare_eq | exact hvm.bare_eq.symm
  have e1 : ∀ comp, U.vm.classes.findIdx? (am_ac comp) = u.vm.classes.findIdx? (am_ac comp) := fun comp => by
    have a1 : U.vm.bare.classes.findIdx? (am_ac comp) = U.vm.classes.findIdx? (am_ac comp) := va_idx_bare U.vm comp
    have a2 : u.vm.bare.classes.findIdx? (am_ac comp) = u.vm.classes.findIdx? (am_ac comp) := va_idx_bare u.vm comp
    rw [← a1, ← a2, hbare]
  have e2 : ∀ n, U.vm.findClass n = u.vm.findClass n := fun n => hvm.findClass n none
  rw [am_AOe] at h ⊢
  simp only [e2]
  cases hc : u.vm.findClass (FieldType.array FieldType.int).toString with
  | none => rw [hc] at h; simp at h
  | some comp =>
    rw [hc] at h
    simp only [Option.bind_some] at h ⊢
    rw [e1 comp]
    cases hi : u.vm.classes.findIdx? (am_ac comp) with
    | none =>
      rw [hi] at h
      simp at h
    | some c =>
      rw [hi] at h
      simp only [Option.bind_some] at h ⊢
      cases hk : u.vm.classes[c]? with
      | none => rw [hk] at h; simp at h
      | some k =>
        obtain ⟨k', hk', he⟩ := hvm.2.2 _ _ hk
        rw [hk] at h
        rw [hk']
        simp only [Option.map_some] at h ⊢
        have e4 : k'.kind = k.kind := by rw [he]
        have e5 : am_ak (fun n => u.vm.findClass n) c k' = am_ak (fun n => u.vm.findClass n) c k := by unfold am_ak; rw [e4]
        rw [e5]
        exact h
theorem am_Z.go {G : am_G} {s U : State} {H : Heap} (hW : s.WarmedH U.vm) (hH : U.heap = H) (hq : ∀ a : Nat, a < s.heap.size → ¬ am_A G a → H[a]? = s.heap[a]?) (h : am_Z G s s.heap) : am_Z G U H := by
  subst hH
  obtain ⟨⟨h1, h2, h3, h4, h6, h7⟩, h5⟩ := h
  refine ⟨⟨h1.go hW hq, h2.go hW hq, fun k hk => ?_, fun C hC => (h4 C hC).moved hW.alike, fun a b ha hb hab => (h6 a b ha hb hab).moved hW.alike, am_AOA hW.alike h7⟩, fun j hj => ⟨((h5 j hj).1.moved hW.alike).kept hq, ((h5 j hj).2.moved hW.alike).kept hq⟩⟩
  obtain ⟨a, ha⟩ := h3 k hk
  exact ⟨a, ha.warm hW⟩
/-- the word of a method's code -/
def am_code (y : MethodName) (u : am_U) : Cond := match u.2.2.2.2.2 with
  | [] => .code y u.2.2.1 u.2.2.2.1 u.2.2.2.2.1
  | h :: hs => .codeWith y u.2.2.1 u.2.2.2.1 u.2.2.2.2.1 (h :: hs)
theorem am_code_spec {y : MethodName} {u : am_U} {args : Array Value} {s : State} {m : MethodId} (hn : s.methodNamed? y = some m) (h : (am_code y u).before args s = true) :
    ∃ meth c, s.vm.method? m = some meth ∧ meth.code = some c ∧ c.code = u.2.2.1 ∧ c.maxLocals = u.2.2.2.1 ∧ meth.sig.returnType = u.2.2.2.2.1 ∧ meth.locks = false ∧
      c.exceptionTable.toList.map (fun x => (x.startPc, x.endPc, x.handlerPc, x.catchType)) = u.2.2.2.2.2 ∧ parseMethodDescriptor y.desc = some meth.sig := by
  unfold am_code at h
  cases he : u.2.2.2.2.2 with
  | nil =>
    rw [he] at h
    obtain ⟨meth, c, h1, h2, h3, h4, h5, h6, h7, h8⟩ := Cond.code_spec hn h
    refine ⟨meth, c, h1, h2, h3, h4, h5, h6, ?_, h8⟩
    have e : c.exceptionTable = #[] := Array.isEmpty_iff.mp h7
    rw [e]
    rfl
  | cons a as =>
    rw [he] at h
    obtain ⟨m', meth, c, h0, h1, h2, h3, h4, h5, h6, h7, h8⟩ := Cond.codeWith_spec h
    cases hn.symm.trans h0
    exact ⟨meth, c, h1, h2, h3, h4, h6, h7, h5, h8⟩
def AMet (y : MethodName) (u : am_U) (R : Room) (As : List Value) (M : am_M) (post : am_R → am_M → Prop) : Prop :=
  ∀ l : Launch, am_L l → ∀ G : am_G, MetFree l y (headSpec am_ws R) (fun v U => v = (As.map (am_v G)).toArray ∧ am_P G M U.heap ∧ am_K G U ∧ am_Z G U U.heap ∧ am_b G ≤ U.heap.size) (fun _ _ _ _ _ => True) (fun _ st o t => am_Q G post R.cells R.slots st o t)
theorem am_lv_args (G : am_G) : ∀ (As : List Value) (i : Nat), am_lv G (lv_args i As) = lv_args i (As.map (am_v G))
  | [], i => rfl
  | v :: vs, i => by
    show (i, am_v G v) :: am_lv G (lv_args _ vs) = (i, am_v G v) :: lv_args _ (vs.map (am_v G))
    rw [am_v_cat, am_lv_args G vs]
theorem am_sl_len (G : am_G) : ∀ As : List Value, (lg_sl (As.map (am_v G))).length = (lg_sl As).length
  | [] => rfl
  | v :: vs => by
    have h := am_sl_len G vs
    unfold lg_sl at h ⊢
    rw [List.map_cons, List.flatMap_cons, List.flatMap_cons, List.length_append, List.length_append, h, am_v_cat]
    by_cases e : v.category = 2
    · rw [if_pos e, if_pos e]; rfl
    · rw [if_neg e, if_neg e]; rfl
/-- a contract out of a walk of the method's body -/
theorem am_met {y : MethodName} {u : am_U} {R : Room} {As : List Value} {M : am_M} {post : am_R → am_M → Prop} (hy : plainFor y = true) (hc : am_code y u ∈ am_ws) (hown : y.cls = u.1) (hnm : y.name = u.2.1) (hlen : (lg_sl As).length ≤ u.2.2.2.1)
    (k : AW u R 0 0 0 (lv_args 0 As) [] M post) : AMet y u R As M post := by
  intro l hL G
  refine MetFree.of_bodySF (code := u.2.2.1) (maxLocals := u.2.2.2.1) (ret := u.2.2.2.2.1) hy ?_ ?_
  · intro args s m h hn
    obtain ⟨meth, c, h1, h2, h3, h4, h5, h6, -, -⟩ := am_code_spec hn (atoms_spec (ws := am_ws) h _ hc)
    exact ⟨meth, c, h1, h2, h3, h4, h5, h6⟩
  · intro p e s m args below meth c s₁ B hml hv _
    obtain ⟨rfl, hP, hK, hZ, hb⟩ := hv
    have hts := atoms_spec (ws := am_ws) B.pre
    have hh0 : s₁.heap = s.heap := by rw [B.state]; rfl
    have X₀ := Stand.of_body B
    have hname : s.vm.findClass u.1 = some m.cls := by rw [← hown]; exact findClass_of_methodNamed B.named
    have hF : am_F u p s m (As.map (am_v G)).toArray meth c := by
      obtain ⟨meth', c', h1, h2, h3, h4, h5, h6, h7, -⟩ := am_code_spec B.named (hts _ hc)
      cases B.method.symm.trans h1
      cases X₀.code.symm.trans h2
      exact ⟨B.exec, B.bytes, hml, hname, hts, h5, h6, ((name_of_methodNamed B.named B.method).1).trans hnm, h7⟩
    have hl := lv_entry (As.map (am_v G)) (n := u.2.2.2.1) (by rw [am_sl_len]; exact hlen)
    rw [← am_lv_args] at hl
    have K := k G p l e s m _ below meth c s.heap [] _ hF hL hK hZ hP va_S.rf hb hl
    rw [lg_entry_eq]
    obtain ⟨t, a1, o, b1, b2, b3⟩ := K s₁ hh0 X₀
    exact ⟨t, o, a1, b1, b2, b3⟩
section AWC
variable {p : Program} {l : Launch} {e : Env} {R : Room} {s : State} {m : MethodId} {args : Array Value} {below : List Frame} {meth : Method} {c : Code} {locs : List Loc} {ce sl : Nat} {G : am_G} {U : State} {H : Heap}
/-- a call of a method with a contract: it comes back with an answer, or a throwable comes out of it -/
theorem am_call {y : MethodName} {u u' : am_U} {R' : Room} {As : List Value} {M : am_M} {post : am_R → am_M → Prop} {g : JFrame} {ig : Instr} {len : Nat} {mk : MethodId} (hF : am_F u p s m args meth c) (hL : am_L l) (hK : am_K G s) (hZ : am_Z G s s.heap) (hP : am_P G M U.heap) (hS : va_S (am_A G) s.heap U.heap locs) (hb : am_b G ≤ s.heap.size)
    (hM : AMet y u' R' As M post) (hc : am_code y u' ∈ am_ws) (hini : Cond.initialized y.cls ∈ am_ws) (hfr : R'.frames + 1 ≤ R.frames) (hlo : 8 + (u'.2.2.2.1 + 11) + R'.locals ≤ R.locals) (hce : ce + R'.cells ≤ R.cells) (hsl : sl + R'.slots ≤ R.slots)
    (X : Stand p l e R s m args below meth c U locs ce sl) (hg : g.method = m) (hsize : g.locals.size = c.maxLocals) (hdg : decode c.code g.pc = .ok (ig, len)) (hW : 2 * g.monitorRoom + (g.stack.map fun v => v.category).sum ≤ 8) (hn : U.methodNamed? y = some mk) :
    ∃ (r : am_R) (M' : am_M) (T' : State) (L : List Loc), post r M' ∧ am_P G M' T'.heap ∧ Stand p l e R s m args below meth c T' (locs ++ L) (ce + R'.cells) (sl + R'.slots) ∧ va_S (am_A G) s.heap T'.heap (locs ++ L) ∧
      match r with
      | .inl v => ∀ tg, Steps p.tables e below (T'.setTop { g with pc := g.pc + len, stack := (v.map (am_v G)).toList ++ g.stack }) tg → Steps p.tables e below (doInvoke e (U.setTop g) [] mk (As.map (am_v G)).toArray).1 tg
      | .inr k => ∃ (a : Addr) (cell : Cell), T'.heap[a]? = some cell ∧ cell.vm.isStatics = false ∧ s.vm.findClass (am_X k) = some cell.cls ∧ ∀ tg, Steps p.tables e below ((T'.setTop g).pushFrame (.throwing a)) tg → Steps p.tables e below (doInvoke e (U.setTop g) [] mk (As.map (am_v G)).toArray).1 tg := by
  have hts : ∀ (a' : Array Value) (V : State), s.WarmedH V.vm → ∀ w ∈ am_ws, w.before a' V = true := fun a' V hW => am_keepw hW hF.2.2.2.2.1
  have htU := hts (As.map (am_v G)).toArray U X.warmed
  obtain ⟨methY, cY, hmY, hcY, -, hlY, -, -, -, -⟩ := am_code_spec hn (htU _ hc)
  obtain ⟨kY, hkY, -⟩ := className_of_methodNamed hn
  have hinitY : kY.init = .initialized := Cond.initialized_spec (findClass_of_methodNamed hn) hkY (htU _ hini)
  have h : At U g.method c below := by rw [hg]; exact X.here
  have happ : (headSpec am_ws R').appliesLoose y e.platform (U.calling g mk (As.map (am_v G)).toArray) = true :=
    Spec.appliesLoose_calling (g := g) h hdg hn hkY hinitY
      (X.room_calling (g := g) (R' := R') hsize hmY hcY hfr (by rw [hlY]; omega) hce hsl) (atoms_intro htU)
  obtain ⟨mid, hmid⟩ := h.above
  have hfr2 : (U.setTop g).frames = (.java g :: mid) ++ below := by rw [State.frames_setTop' g h.top, hmid]; rfl
  have hZU : am_Z G (U.calling g mk (As.map (am_v G)).toArray) (U.calling g mk (As.map (am_v G)).toArray).heap := hZ.go (show s.WarmedH (U.calling g mk (As.map (am_v G)).toArray).vm from X.warmed) rfl (fun a h1 h2 => hS.2.1 a h1 h2)
  have hKU : am_K G (U.calling g mk (As.map (am_v G)).toArray) := va_K.moved (u := s) (U := U.calling g mk (As.map (am_v G)).toArray) (show s.vm.Alike (U.calling g mk (As.map (am_v G)).toArray).vm from X.warmed.alike) hK
  obtain ⟨o, s₂, hsteps, -, hend, hq⟩ := Steps.callFree (hM l hL G) p X.admits X.cas X.clock (acts := []) hfr2 happ ⟨rfl, hP, hKU, hZU, Nat.le_trans hb hS.1⟩ trivial
  have hq' : am_Q G post R'.cells R'.slots (U.calling g mk (As.map (am_v G)).toArray) o s₂ := hq
  obtain ⟨⟨r, M', hpost, ho, hP'⟩, hVF, L, ⟨hW₂, hsame⟩, hL'⟩ := hq'
  rw [State.frames_setTop' g h.top] at hend
  have hSn : va_S (am_A G) s.heap s₂.heap (locs ++ L) := by
    refine ⟨Nat.le_trans hS.1 hVF.1, fun q h1 h2 => (hVF.2 q (Nat.lt_of_lt_of_le h1 hS.1) h2).trans (hS.2.1 q h1 h2), fun q hq => ?_⟩
    rcases List.mem_append.mp hq with h | h
    · exact hS.2.2 q h
    · exact hL' q h
  cases r with
  | inr k =>
    obtain ⟨a, cell, rfl, hcell, hns, hcls⟩ := ho
    rw [X.tail] at hend
    obtain ⟨T', X', hWT, -, ht⟩ := X.outOfThrown hg hend hW₂ hsame
    have hTh : T'.heap = s₂.heap := by rw [ht]; rfl
    have hTv : T'.vm = s₂.vm := by rw [ht]; rfl
    refine ⟨.inr k, M', T', L, hpost, by rw [hTh]; exact hP', X', by rw [hTh]; exact hSn, a, cell, by rw [hTh]; exact hcell, hns, ?_, fun tg h => ?_⟩
    · rw [← X'.warmed.alike.findClass, hTv]; exact hcls
    · rw [← ht] at h
      exact hsteps.trans h
  | inl v =>
    obtain rfl : o = .returned (v.map (am_v G)) := ho
    obtain ⟨e2, q2, q3, q4, q5, q6⟩ := id hsame
    have e3 : s₂ = ({ (U.calling g mk (As.map (am_v G)).toArray).setFrames s₂.frames with heap := s₂.heap, slotsUsed := s₂.slotsUsed } : State).setVm s₂.vm := by
      have : s₂ = ({ s₂ with vm := (U.calling g mk (As.map (am_v G)).toArray).vm } : State).setVm s₂.vm := rfl
      rw [e2] at this
      exact this
    obtain ⟨c₂, i₂, len₂, hc₂, hd₂, hf₂⟩ := hend
    have hW' : U.WarmedH s₂.vm := hW₂
    have hcc : c₂ = c := by
      have h1 : s₂.code? g.method = U.code? g.method := by
        rw [State.code?_eq, State.code?_eq, hW'.alike.method?]
      exact Option.some.inj (hc₂.symm.trans (h1.trans h.code))
    subst hcc
    have hlen : len₂ = len := by rw [hdg] at hd₂; cases hd₂; rfl
    subst hlen
    obtain ⟨g₀, hg0⟩ := Option.isSome_iff_exists.mp h.top
    obtain ⟨r, hr⟩ := State.topJava?_eq_some.mp hg0
    have hs₂ : s₂ = (({ U with heap := s₂.heap, slotsUsed := s₂.slotsUsed } : State).setVm s₂.vm).setTop { g with pc := g.pc + len₂, stack := (v.map (am_v G)).toList ++ g.stack } := by
      have hr' : (({ U with heap := s₂.heap, slotsUsed := s₂.slotsUsed } : State).setVm s₂.vm).frames = .java g₀ :: r := hr
      refine e3.trans ?_
      rw [hf₂, State.calling_eq h.top, State.setFrames_setFrames, State.setTop_of_frames _ hr', hr]
      rfl
    have hsame2 : U.sameButNew ({ U with heap := s₂.heap, slotsUsed := s₂.slotsUsed } : State) L R'.cells R'.slots := by
      refine ⟨?_, q2, q3, q4, q5, q6⟩
      obtain ⟨t, ht, -⟩ := State.frames_cons hr
      show ({ U with heap := s₂.heap, slotsUsed := s₂.slotsUsed } : State) = { U.setFrames U.frames with heap := s₂.heap, slotsUsed := s₂.slotsUsed }
      rw [State.setFrames_self ht]
    subst hg
    refine ⟨.inl v, M', (({ U with heap := s₂.heap, slotsUsed := s₂.slotsUsed } : State).setVm s₂.vm), L, hpost, hP',
      ⟨X.admits, X.cas, X.clock, X.frames, X.room, X.hears, X.method, X.code, (X.here.setHeapUsed s₂.heap s₂.slotsUsed).setVm hW'.alike, X.tail, State.WarmedH.trans X.warmed hW', X.limits, X.bytes, X.same.trans (hsame2.setVm s.vm)⟩, hSn, fun tg ht => ?_⟩
    rw [← hs₂] at ht
    exact hsteps.trans ht
end AWC
