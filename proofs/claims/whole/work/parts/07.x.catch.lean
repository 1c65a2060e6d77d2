/-! ===== a throwable caught by the method's own handler: the search may resolve the handlers' classes on its way ===== -/
def am_FG (e : Env) (s : State) (f : JFrame) (a : Addr) (t : List ExceptionTableEntry) (h : Handler) (s' : State) : Prop :=
  ∀ (Q : Handler → Pre) (E : CtlPost) (d : Bool) (acts : List Action), wp (findHandler.go f a t) Q E e d acts s ↔ Q h d acts s'
theorem am_go_cold {E : CtlPost} {e : Env} {d : Bool} {acts : List Action} {s : State} {f : JFrame} {a : Addr} {Q : Handler → Pre} {x : ExceptionTableEntry} {t : List ExceptionTableEntry} {c : ClassId} {cell : Cell} {vm' : Vm} (hx : covers x f.pc = true) (h0 : x.catchType ≠ 0)
    (hg : (Jvm.resolveClass f.method.cls x.catchType).Gives e.toSetting s.vm (.ok c) vm') (hsz : vm'.classes.size ≤ s.vm.classes.size) (hcell : s.heap[a]? = some cell) (hobj : ∀ k, cell.vm ≠ .statics k)
    (hk : ∃ k, vm'.classes[cell.cls]? = some k) (hc : ∃ k, vm'.classes[c]? = some k) :
    wp (findHandler.go f a (x :: t)) Q E e d acts s ↔
      if vm'.assignable cell.cls c = true then Q (.found x.handlerPc) d acts (s.setVm vm') else wp (findHandler.go f a t) Q E e d acts (s.setVm vm') := by
  simp only [covers] at hx
  obtain ⟨ha, ht⟩ := hg.op (op := VmOp.resolveClass f.method.cls x.catchType) rfl
  cases hfit : vm'.assignable cell.cls c <;>
    simp [findHandler.go, hx, h0, ha, ht, hsz, hcell, hobj, hk, hc, hfit, VmOp.dirties, VmOp.acts]
def am_first : List ExceptionTableEntry → List Nat → Nat → Option Nat
  | x :: xs, j :: js, k => if j = k then some x.handlerPc else am_first xs js k
  | _, _, _ => none
theorem am_castX {k : Nat} (hk : k < 3) : Cond.castable (am_X k) (am_X k) ∈ lw_tbl := by
  match k, hk with
  | 0, _ => decide +kernel
  | 1, _ => decide +kernel
  | 2, _ => decide +kernel
  | k + 3, h => exact absurd h (by omega)
section AWX
variable {p : Program} {l : Launch} {e : Env} {R : Room} {s : State} {m : MethodId} {args : Array Value} {below : List Frame} {meth : Method} {c : Code} {locs : List Loc} {ce sl : Nat} {G : am_G} {T : State}
theorem am_findL {u : am_U} {k : Nat} {a : Addr} {cell : Cell} {g : JFrame} (hF : am_F u p s m args meth c) (hZ : am_Z G s s.heap) (X : Stand p l e R s m args below meth c T locs ce sl) (hg : g.method = m) (hk : k < 3) (h1 : T.heap[a]? = some cell) (h2 : cell.vm.isStatics = false) (h3 : s.vm.findClass (am_X k) = some cell.cls) :
    ∀ (es : List ExceptionTableEntry) (ks : List Nat) (vm : Vm) (hp : Nat), s.WarmedH vm → (∀ (i : Nat) (x : ExceptionTableEntry) (j : Nat), es[i]? = some x → ks[i]? = some j → covers x g.pc = true ∧ x.catchType ≠ 0 ∧ j < 3 ∧ Cond.classLink u.1 x.catchType (am_X j) ∈ lw_tbl) → am_first es ks k = some hp →
      ∃ vm' : Vm, s.WarmedH vm' ∧ am_FG e (((T.setVm vm).setTop g).pushFrame (.throwing a)) g a es (.found hp) (((T.setVm vm').setTop g).pushFrame (.throwing a)) := by
  have hts := hF.2.2.2.2.1
  have hpl : e.platform.magicAccessors = ({} : Platform).magicAccessors := by rw [X.admits.platform]
  intro es
  induction es with
  | nil =>
    intro ks vm hp _ _ h
    cases h
  | cons x xs ih =>
    intro ks vm hp hw hall h
    cases ks with
    | nil => cases h
    | cons j js =>
      obtain ⟨c1, c2, c3, c4⟩ := hall 0 x j rfl rfl
      obtain ⟨cc, hfcc, hcl⟩ := Cond.classLink_spec hF.2.2.2.1 (hts _ (am_mem c4 rfl)) e.platform hpl
      obtain ⟨hg₁, hwarm₁, -⟩ := State.classEntry (e := e) hw hcl
      generalize vm.noted m.cls x.catchType (.cls cc) = vm₁ at hg₁ hwarm₁
      have hsz : vm₁.classes.size ≤ vm.classes.size := by rw [hwarm₁.2.1, hw.2.1]; exact Nat.le_refl _
      obtain ⟨kc, hkc⟩ := Vm.classAt_of_findClass h3
      obtain ⟨kc', hkc', -⟩ := hwarm₁.alike.2.2 _ _ hkc
      obtain ⟨kd, hkd⟩ := Vm.classAt_of_findClass hfcc
      obtain ⟨kd', hkd', -⟩ := hwarm₁.alike.2.2 _ _ hkd
      have hgo : ∀ (Q : Handler → Pre) (E : CtlPost) (d : Bool) (acts : List Action), wp (findHandler.go g a (x :: xs)) Q E e d acts (((T.setVm vm).setTop g).pushFrame (.throwing a)) ↔
          if vm₁.assignable cell.cls cc = true then Q (.found x.handlerPc) d acts (((T.setVm vm₁).setTop g).pushFrame (.throwing a)) else wp (findHandler.go g a xs) Q E e d acts (((T.setVm vm₁).setTop g).pushFrame (.throwing a)) :=
        fun Q E d acts => am_go_cold (s := ((T.setVm vm).setTop g).pushFrame (.throwing a)) (vm' := vm₁) c1 c2 (by rw [hg]; exact hg₁) hsz (cell := cell) h1 (VmData.ne_statics_of h2) ⟨kc', hkc'⟩ ⟨kd', hkd'⟩
      unfold am_first at h
      by_cases hjk : j = k
      · rw [if_pos hjk] at h
        cases h
        subst hjk
        cases hfcc.symm.trans h3
        obtain ⟨q1, q2, r1, r2, r3⟩ := Cond.castable_spec (hts _ (am_mem (am_castX hk) rfl))
        cases r1.symm.trans h3
        cases r2.symm.trans h3
        have hass : vm₁.assignable cell.cls cell.cls = true := by rw [hwarm₁.alike.assignable]; exact r3
        refine ⟨vm₁, hwarm₁, fun Q E d acts => ?_⟩
        rw [hgo Q E d acts, if_pos hass]
      · rw [if_neg hjk] at h
        obtain ⟨q1, q2, r1, r2, r3⟩ := hZ.1.2.2.2.2.1 k j hk c3 (Ne.symm hjk)
        cases r1.symm.trans h3
        cases r2.symm.trans hfcc
        have hass : vm₁.assignable cell.cls cc = false := by rw [hwarm₁.alike.assignable]; exact r3
        obtain ⟨vm', hw', hFG⟩ := ih js vm₁ hp hwarm₁ (fun i x' j' a1 a2 => hall (i + 1) x' j' a1 a2) h
        refine ⟨vm', hw', fun Q E d acts => ?_⟩
        rw [hgo Q E d acts, if_neg (by rw [hass]; decide)]
        exact hFG Q E d acts
theorem am_catchV {s s' : State} {a : Addr} {f : JFrame} {r : List Frame} {pc : Nat} (hfind : ∀ (Q : Handler → Pre) (E : CtlPost) (d : Bool) (acts : List Action), wp (findHandler f a) Q E e d acts s ↔ Q (.found pc) d acts s') :
    (stepThrowing e s a (.java f :: r)).Is (s'.setFrames (.java { f with pc := pc, stack := [.ref a] } :: r)) [] := by
  simp only [stepThrowing, searchFrame, vmDo]
  generalize hr : Sem.go _ e false [] s = res
  obtain ⟨as, rfl, ha⟩ := Sem.eq_ok_of hr (a := Handler.found pc) (s' := s') (acts' := []) (by simp [hfind _ _ _ _])
  exact ⟨rfl, ha⟩
theorem am_caught {tb : Tables} {g : JFrame} {a : Addr} {target : State} {vm' : Vm} (h : At T g.method c below) {pc : Nat} (hfind : ∀ (Q : Handler → Pre) (E : CtlPost) (d : Bool) (acts : List Action), wp (findHandler g a) Q E e d acts ((T.setTop g).pushFrame (.throwing a)) ↔ Q (.found pc) d acts (((T.setVm vm').setTop g).pushFrame (.throwing a)))
    (hrest : Steps tb e below ((T.setVm vm').setTop { g with pc := pc, stack := [.ref a] }) target) : Steps tb e below ((T.setTop g).pushFrame (.throwing a)) target := by
  obtain ⟨hgo, hw⟩ := h.throwing a
  refine Steps.head hgo hw ?_
  rw [stepThread_throwing (frames_entered h.top _), (am_catchV (s := (T.setTop g).pushFrame (.throwing a)) hfind).1]
  obtain ⟨g₀, hg⟩ := Option.isSome_iff_exists.mp h.top
  obtain ⟨r, hr⟩ := State.topJava?_eq_some.mp hg
  have hr' : (T.setVm vm').frames = .java g₀ :: r := hr
  rw [State.pushFrame, State.setFrames_setFrames, State.setTop_of_frames _ hr', State.setFrames_setFrames]
  rw [State.setTop_of_frames _ hr'] at hrest
  rw [hr]
  exact hrest
end AWX
